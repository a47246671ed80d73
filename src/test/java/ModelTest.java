import java.lang.reflect.InvocationTargetException;
import java.lang.reflect.Method;
import java.util.ArrayList;
import java.util.Arrays;
import java.util.Comparator;
import java.util.List;
import java.util.Random;

/** Runs of calls by chance (the same each time), on the class and on the Model: every answer is the same, nothing is thrown. */
public final class ModelTest {
    private static final int RUNS = 4000;
    private static final int CALLS = 512;
    private static final int[] EDGES = {-1, 0, 1, 2, 3, 4, 5, 6, 8, 9, 10, 17, 18, 20, 21, 40, 41, 99, 100, 127, 128,
        255, 256, -2, -100, 65536, 65535, 32768, Integer.MAX_VALUE, Integer.MAX_VALUE - 1, Integer.MIN_VALUE};

    private final Due due;
    private final Random chance;
    private final FatLean x = new FatLean();
    private final Model model = new Model();
    private final List<String> run = new ArrayList<>();
    private int calls;

    private ModelTest(Due due, long seed) {
        this.due = due;
        this.chance = new Random(seed);
    }

    public static void main(String[] args) throws Exception {
        Due due = new Due();
        List<Method> methods = new ArrayList<>();
        for (Method m : FatLean.class.getDeclaredMethods()) {
            if (java.lang.reflect.Modifier.isPublic(m.getModifiers())) {
                methods.add(m);
            }
        }
        methods.sort(Comparator.comparing(Method::getName));
        int runs = args.length > 1 ? Integer.parseInt(args[1]) : RUNS;
        int from = args.length > 2 ? Integer.parseInt(args[2]) : 0;
        for (int seed = from; seed < from + runs; seed++) {
            new ModelTest(due, seed).go(methods);
        }
        due.finish();
    }

    private void go(List<Method> methods) throws Exception {
        boolean same = chance.nextInt(10) == 0 || tell();
        while (calls < CALLS && same) {
            if (chance.nextInt(150) == 0) {
                same = tell();
            } else {
                Method m = methods.get(chance.nextInt(methods.size()));
                boolean rare = m.getName().equals("text");
                same = rare && chance.nextInt(40) != 0 || call(m.getName(), arguments(m));
            }
        }
    }

    /** A text, often a right one, is fed and told. */
    private boolean tell() throws Exception {
        boolean same = call("end", new int[] {0});
        String text = text();
        for (int i = 0; i < text.length() && same; i++) {
            same = call("feed", new int[] {text.charAt(i)});
        }
        return same && call("text", new int[0]) && call("fault", new int[0]);
    }

    private String text() {
        StringBuilder s = new StringBuilder();
        if (chance.nextInt(4) == 0) {
            for (int lines = 1 + n(8); lines > 0; lines--) {
                s.append(line(n(8)));
            }
        } else {
            for (int kind : new int[] {0, 1, 2, 8, 5, 6, 3, 7, 0, 0, 4, 0}) {
                String line = line(kind);
                boolean tooLong = s.length() + line.length() > 160;
                s.append(tooLong || chance.nextInt(6) == 0 ? "" : line);
            }
        }
        if (chance.nextInt(5) == 0) {
            int at = chance.nextInt(s.length());
            String mutant = " ;;09x$fl7az{`/:";
            char c = mutant.charAt(chance.nextInt(mutant.length()));
            int how = chance.nextInt(3);
            if (how == 0) {
                s.setCharAt(at, c);
            } else if (how == 1) {
                s.insert(at, c);
            } else {
                s.setLength(at);
            }
        }
        return s.toString();
    }

    private String line(int kind) {
        switch (kind) {
            case 0: return "land " + n(9) + gap() + n(chance.nextInt(3) == 0 ? 9 : 3) + end();
            case 1: case 2: case 3: case 4: return "dream " + dream() + gap() + (1 + n(8)) + end();
            case 5: return "people " + n(chance.nextInt(4) == 0 ? 41 : 14) + gap() + n(chance.nextInt(9) == 0 ? 22 : 20) + end();
            case 6: return "price " + n(9) + gap() + n(9) + end();
            case 7: return "steward " + new String[] {"all", "part", "level", "none", "need"}[n(4)] + gap() + n(9) + end();
            default: return "granary " + (12 + n(28)) + gap() + rot() + gap() + n(chance.nextInt(8) == 0 ? 40 : 12) + end();
        }
    }

    private String dream() {
        StringBuilder w = new StringBuilder();
        int signs = 1 + n(chance.nextInt(10) == 0 ? 8 : 5);
        for (int i = 0; i < signs; i++) {
            w.append(chance.nextInt(200) == 0 ? 'g' : chance.nextInt(i == 0 ? 4 : 2) == 0 ? 'l' : 'f');
        }
        return w.toString();
    }

    private int rot() {
        int r = n(9);
        return r == 1 && chance.nextInt(4) != 0 ? 0 : r;
    }

    private int n(int most) {
        return chance.nextInt(most + 1);
    }

    private String gap() {
        return chance.nextInt(10) == 0 ? "  " : " ";
    }

    private String end() {
        return chance.nextInt(10) == 0 ? " ; " : ";";
    }

    private int[] arguments(Method m) {
        int[] a = new int[m.getParameterCount()];
        for (int i = 0; i < a.length; i++) {
            a[i] = chance.nextInt(12) == 0 ? EDGES[chance.nextInt(EDGES.length)] : usual(m.getName(), i);
        }
        return a;
    }

    private int someLand() {
        return n(Math.max(0, model.rule(0) - 1));
    }

    private int someReading() {
        return n(Math.max(0, model.rule(1) - 1));
    }

    /** Mostly as a READING that CAN BE tells this YEAR, so that some go on being so. */
    private int someYear() {
        int r = someReading();
        boolean told = model.reading(r, 1) == 1 && model.rule(11) < 8 && chance.nextInt(8) != 0;
        return told ? model.reading(r, 10 + model.rule(11)) : n(1);
    }

    private int usual(String name, int i) {
        switch (name) {
            case "feed": return 32 + n(95);
            case "end": return n(5);
            case "rule": return n(13);
            case "land": return i == 0 ? someLand() : n(1);
            case "till": return i == 0 ? someLand() : i == 1 ? n(1) : n(9);
            case "reading": return i == 0 ? someReading() : n(17);
            case "price": return i == 0 ? n(1) : n(9);
            case "weigh": return i == 0 ? someReading() : 1 + n(8);
            case "need": case "hunger": return n(20);
            case "cap": return 10 + n(30);
            case "fill": return n(15);
            case "rot": return n(9);
            case "steward": return i == 0 ? n(4) : n(9);
            case "go": return i == 0 ? someYear() : n(6);
            case "year": return someYear();
            case "bears": return n(1);
            case "keeps": return n(99);
            case "ahead": return i == 0 ? someReading() : i == 1 ? n(8) : n(2);
            case "when": case "hoards": return someReading();
            case "fat": return i == 0 ? n(7) : n(1);
            case "best": case "choice": case "knowing": return i == 0 ? n(5) : n(1);
            case "worth": return i == 0 ? someLand() : i == 1 ? n(5) : n(1);
            case "safe": return n(4);
            case "see": return i == 0 ? 1 + n(7) : n(3) == 0 ? n(40) : Math.max(0, model.ahead(someReading(), 1 + n(4), 0));
            case "forget": return n(2);
            case "stewards": return i == 0 ? someReading() : n(1);
            case "drift": return i == 0 ? chance.nextInt() : i == 1 ? n(10) : n(2);
            case "keep": case "back": return n(1);
            case "sheet": return i == 0 ? n(1) : i == 1 ? n(chance.nextInt(3) == 0 ? 2 : 0) : n(20);
            case "lay": return i == 0 ? n(1) : i == 1 ? n(10) : chance.nextInt(4) == 0 ? n(5) : n(1);
            case "read": return i == 0 ? n(1) : i == 1 ? n(chance.nextInt(3) == 0 ? 2 : 0) : n(5);
            default: return n(5);
        }
    }

    private boolean call(String name, int[] a) throws Exception {
        Object[] boxed = Arrays.stream(a).boxed().toArray();
        Class<?>[] types = new Class<?>[a.length];
        Arrays.fill(types, int.class);
        long want = ((Number) Model.class.getMethod(name, types).invoke(model, boxed)).longValue();
        String told = name + Arrays.toString(a);
        run.add(told);
        calls++;
        long got;
        try {
            got = ((Number) FatLean.class.getMethod(name, types).invoke(x, boxed)).longValue();
        } catch (InvocationTargetException e) {
            got = want + 1;
            System.out.println(told + " has thrown " + e.getCause());
        }
        due.is(told, got, want);
        if (got != want) {
            System.out.println("  behind " + run);
        }
        return got == want;
    }
}
