import java.lang.reflect.Method;
import java.util.ArrayList;
import java.util.Arrays;
import java.util.HashMap;
import java.util.List;
import java.util.Map;
import java.util.Set;
import java.util.TreeSet;
import java.util.regex.Matcher;
import java.util.regex.Pattern;

/**
 * Runs of calls on a new object, written as a text: "go(1,5)=0 rule(6)=4 cap(3)=STATE". A step without "=" may answer
 * what it will. feed[..] feeds each sign; tell[..] feeds each sign and calls text(), and "=-15/3" asks for its answer
 * and fault(); "feed(32)*160" calls so often; "best(2,*)=1/3" asks for both parts of a fraction.
 *
 * What is refused changes nothing, and a call that only asks changes nothing: behind every such step two objects are
 * made by all steps ahead of it, one of them with the step, and taken apart by calls until all that they hold is told.
 */
final class Script {
    /** A place where every part of the state has something that could be lost. */
    static final String WHOLE = "land 9 2;land 6 1;dream ffll 3;dream flff 2;dream lff 1;people 8 12;granary 20 5 4;"
        + "price 1 6;steward level 2;";
    static final String RICH = "keep(0) go(1,5) keep(1) see(1,7) see(3,2) sheet(0,1,4) lay(0,1,3) sheet(3,0,2) "
        + "lay(3,0,1) read(0,0,0,1) tell[x] feed[land 1 2;] ";

    /** Behind them what calls answer is free. */
    static final int MOST_CALLS = 512;
    private static final Set<String> ASKING = Set.of("fault", "rule", "land", "reading", "bears", "keeps", "ahead", "when",
        "can", "fat", "best", "choice", "knowing", "worth", "safe", "granary", "least", "stewards", "hoards", "fits",
        "drift", "torn", "count");
    private static final Map<String, Long> NAMES = Map.of("BAD", -1L, "STATE", -2L, "FULL", -3L, "NONE", -4L,
        "MAX", (long) Integer.MAX_VALUE, "MIN", (long) Integer.MIN_VALUE);
    private static final Pattern STEP =
        Pattern.compile("\\s*(\\w+)(?:\\(([^)]*)\\)|\\[([^\\]]*)\\])(?:\\*(\\d+))?(?:=(\\S+))?\\s*");
    private static final Map<String, Method> METHODS = methods();

    private final Due due;
    private final Set<Integer> promises = new TreeSet<>();
    private String sentence;
    private FatLean x;
    private int made;
    /** The calls that made the state, without those that left it as it was. */
    private final List<Call> behind = new ArrayList<>();
    private String held;

    Script(Due due) {
        this.due = due;
    }

    private static Map<String, Method> methods() {
        Map<String, Method> all = new HashMap<>();
        for (Method m : FatLean.class.getDeclaredMethods()) {
            if (java.lang.reflect.Modifier.isPublic(m.getModifiers())) {
                all.put(m.getName(), m);
            }
        }
        return all;
    }

    private record Call(String name, int... args) {
        long on(FatLean x) {
            try {
                return ((Number) METHODS.get(name).invoke(x, Arrays.stream(args).boxed().toArray())).longValue();
            } catch (ReflectiveOperationException e) {
                throw new IllegalStateException(this + " has thrown " + e.getCause(), e);
            }
        }

        @Override
        public String toString() {
            return name + Arrays.toString(args);
        }
    }

    /** A sentence of a promise (0: of the terms) and what shows it, in a new object to which a text was told. */
    void holds(int promise, String says, String text, String steps) {
        promises.add(promise);
        sentence = promise + ": " + says;
        x = new FatLean();
        made = 0;
        behind.clear();
        held = null;
        if (!text.isEmpty()) {
            tell(text, null);
        }
        Matcher m = STEP.matcher(steps);
        int at = 0;
        while (at < steps.length()) {
            if (!m.find(at) || m.start() != at) {
                throw new IllegalArgumentException("no step: " + steps.substring(at));
            }
            step(m);
            at = m.end();
        }
    }

    /** Each of some promises had a sentence. */
    void covers(int first, int last) {
        for (int p = first; p <= last; p++) {
            due.is("sentences of promise " + p, promises.contains(p) ? 1 : 0, 1);
        }
    }

    private void step(Matcher m) {
        String name = m.group(1);
        String want = m.group(5);
        if (m.group(3) != null) {
            if (name.equals("tell")) {
                tell(m.group(3), want);
            } else {
                feed(m.group(3));
            }
            return;
        }
        int times = m.group(4) == null ? 1 : Integer.parseInt(m.group(4));
        for (int i = 1; i < times; i++) {
            make(call(name, m.group(2)), null);
        }
        if (m.group(2).endsWith("*")) {
            String[] parts = want.split("/");
            make(call(name, m.group(2).replace("*", "0")), parts[0]);
            make(call(name, m.group(2).replace("*", "1")), parts[1]);
        } else {
            make(call(name, m.group(2)), want);
        }
    }

    private static long number(String n) {
        return NAMES.containsKey(n) ? NAMES.get(n) : n.startsWith("0b") ? Long.parseLong(n.substring(2), 2) : Long.parseLong(n);
    }

    private static Call call(String name, String args) {
        String[] parts = args.isBlank() ? new String[0] : args.split(",");
        return new Call(name, Arrays.stream(parts).mapToInt(p -> (int) number(p.trim())).toArray());
    }

    private void feed(String text) {
        for (int i = 0; i < text.length(); i++) {
            make(new Call("feed", text.charAt(i)), null);
        }
    }

    private void tell(String text, String want) {
        feed(text);
        String[] parts = want == null ? new String[] {null} : want.split("/");
        make(new Call("text"), parts[0]);
        if (parts.length > 1) {
            make(new Call("fault"), parts[1]);
        }
    }

    private void make(Call call, String want) {
        made++;
        if (made > MOST_CALLS) {
            throw new IllegalStateException("too many calls: " + sentence);
        }
        long got = call.on(x);
        if (want != null) {
            due.is(sentence + " | " + call, got, number(want));
        }
        boolean asked = ASKING.contains(call.name);
        if (call.name.equals("text") && got < 0) {
            refusedText(call);
        } else if (want != null && (asked || got < 0)) {
            due.is(sentence + " | nothing is changed by " + call, holdings(call, true), held());
        }
        if (!asked && (got >= 0 || call.name.equals("text"))) {
            behind.add(call);
            held = null;
        }
    }

    /** THE TAPE is empty then, and the fault is the latest: all else stays. */
    private void refusedText(Call text) {
        String with = holdings(text, false);
        String without = holdings(new Call("end", 0), false);
        due.is(sentence + " | what was told stays", with, without);
    }

    private String held() {
        if (held == null) {
            held = holdings(null, true);
        }
        return held;
    }

    /** What an object holds that was made by all steps so far, and by one more. */
    private String holdings(Call more, boolean withFault) {
        FatLean y = new FatLean();
        for (Call c : behind) {
            c.on(y);
        }
        if (more != null) {
            more.on(y);
        }
        return Holdings.of(y, behind.size() + 1, withFault);
    }
}
