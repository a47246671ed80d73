import java.lang.management.ManagementFactory;
import java.lang.reflect.Constructor;
import java.lang.reflect.Field;
import java.lang.reflect.Method;
import java.lang.reflect.Modifier;
import java.nio.file.Files;
import java.nio.file.Path;
import java.util.ArrayList;
import java.util.Collections;
import java.util.HashSet;
import java.util.List;
import java.util.Set;
import java.util.regex.Matcher;
import java.util.regex.Pattern;

/** The face of the class, and those rules of LANGUAGE.md that can be seen from outside or in the text of the file. */
public final class LanguageTest {
    private static final String FACE = "ahead(int,int,int)int back(int)int bears(int)int best(int,int)long can()int "
        + "cap(int)int choice(int,int)int count(int)int drift(int,int,int)int end(int)int fat(int,int)long fault()int "
        + "feed(int)int fill(int)int fits()int forget(int)int go(int,int)int granary()int hoards(int)int hunger(int)int "
        + "keep(int)int keeps(int)int knowing(int,int)long land(int,int)int lay(int,int,int)int least()int need(int)int "
        + "price(int,int)int read(int,int,int,int)int reading(int,int)int rot(int)int rule(int)int safe(int)int "
        + "see(int,int)int sheet(int,int,int)int steward(int,int)int stewards(int,int)int text()int till(int,int,int)int "
        + "torn()int weigh(int,int)int when(int)int worth(int,int,int)long year(int)int";

    private static final String[] RULED_OUT = {"throw", "try", "catch", "synchronized", "assert", "->", "::",
        "Exact", "System.out", "System.nano", "System.current", "Random", "Object ", "hashCode", "toString", "package "};

    private static long kept;

    public static void main(String[] args) throws Exception {
        Due due = new Due();
        face(due);
        innerClasses(due);
        sourceText(due, Path.of(args.length > 0 ? args[0] : ".", "src", "main", "java", "FatLean.java"));
        room(due);
        due.finish();
    }

    private static void face(Due due) {
        due.is("public and final", FatLean.class.getModifiers(), Modifier.PUBLIC | Modifier.FINAL);
        List<String> methods = new ArrayList<>();
        Set<String> publicNames = new HashSet<>();
        for (Method m : FatLean.class.getDeclaredMethods()) {
            if (!Modifier.isPrivate(m.getModifiers())) {
                due.is(m.getName() + " is public and no more", m.getModifiers(), Modifier.PUBLIC);
                methods.add(sign(m));
                publicNames.add(m.getName());
            }
        }
        Collections.sort(methods);
        due.is("the methods", String.join(" ", methods), FACE);
        List<Class<?>> classes = new ArrayList<>(List.of(FatLean.class.getDeclaredClasses()));
        classes.add(FatLean.class);
        for (Class<?> c : classes) {
            for (Method m : c.getDeclaredMethods()) {
                boolean own = c == FatLean.class && Modifier.isPublic(m.getModifiers());
                due.is("name of a public one: " + m, !own && publicNames.contains(m.getName()) ? 1 : 0, 0);
                due.is("parameters of " + m, m.getParameterCount() <= 7 ? 1 : 0, 1);
            }
        }
        Constructor<?>[] made = FatLean.class.getDeclaredConstructors();
        due.is("constructors", made.length, 1);
        due.is("a constructor without parameters", made[0].getParameterCount(), 0);
        due.is("a public constructor", made[0].getModifiers(), Modifier.PUBLIC);
        fields(due);
    }

    private static String sign(Method m) {
        List<String> types = new ArrayList<>();
        for (Class<?> t : m.getParameterTypes()) {
            types.add(t.getName());
        }
        return m.getName() + "(" + String.join(",", types) + ")" + m.getReturnType().getName();
    }

    private static void fields(Due due) {
        int constants = 0;
        for (Field f : FatLean.class.getDeclaredFields()) {
            if (!Modifier.isPrivate(f.getModifiers())) {
                constants++;
                due.is(f.getName() + " is a constant of the face",
                    Set.of("BAD", "STATE", "FULL", "NONE").contains(f.getName()) ? 1 : 0, 1);
            }
            if (Modifier.isStatic(f.getModifiers())) {
                due.is(f.getName() + " is final", Modifier.isFinal(f.getModifiers()) ? 1 : 0, 1);
            }
        }
        due.is("constants of the face", constants, 4);
        due.is("BAD", FatLean.BAD, -1);
        due.is("STATE", FatLean.STATE, -2);
        due.is("FULL", FatLean.FULL, -3);
        due.is("NONE", FatLean.NONE, -4);
    }

    private static void innerClasses(Due due) {
        Class<?>[] classes = FatLean.class.getDeclaredClasses();
        due.is("at most twelve classes", classes.length <= 11 ? 1 : 0, 1);
        for (Class<?> c : classes) {
            due.is(c + " is static", Modifier.isStatic(c.getModifiers()) ? 1 : 0, 1);
            due.is(c + " is not seen from outside", c.getModifiers() & (Modifier.PUBLIC | Modifier.PROTECTED), 0);
            int own = 0;
            for (Field f : c.getDeclaredFields()) {
                if (Modifier.isStatic(f.getModifiers())) {
                    due.is(f + " is final", Modifier.isFinal(f.getModifiers()) ? 1 : 0, 1);
                } else {
                    own++;
                }
            }
            due.is(c + " has some twenty fields at most: " + own, own <= 20 ? 1 : 0, 1);
        }
    }

    private static void sourceText(Due due, Path file) throws Exception {
        String code = Files.readString(file).replaceAll("(?s)/\\*.*?\\*/", "").replaceAll("//[^\n]*", "");
        for (String word : RULED_OUT) {
            due.is("the file has '" + word + "'", code.contains(word) ? 1 : 0, 0);
        }
        List<String> imports = new ArrayList<>();
        Matcher m = Pattern.compile("import ([^;]*);").matcher(code);
        while (m.find()) {
            imports.add(m.group(1));
        }
        due.is("imports", String.join(" ", imports), "java.util.Arrays");
        for (int i = 0; i < code.length(); i++) {
            if (code.charAt(i) > 127) {
                due.is("a sign above 127 at " + i, code.charAt(i), 127);
            }
        }
        methodLengths(due, code);
    }

    /** Methods begin behind four or eight blanks and end with a brace behind as many. */
    private static void methodLengths(Due due, String code) {
        String[] lines = code.split("\n");
        for (int i = 0; i < lines.length; i++) {
            Matcher m = Pattern.compile("( {4}| {8})[^ }].*\\) \\{").matcher(lines[i]);
            if (m.matches()) {
                int end = i;
                while (end < lines.length && !lines[end].equals(m.group(1) + "}")) {
                    end++;
                }
                due.is("lines of " + lines[i].trim() + " " + (end - i), end - i <= 60 ? 1 : 0, 1);
            }
        }
    }

    /** All calls of a run live in one room: none of them may make objects of some size. */
    private static void room(Due due) {
        com.sun.management.ThreadMXBean threads =
            (com.sun.management.ThreadMXBean) ManagementFactory.getThreadMXBean();
        FatLean x = Due.told("land 9 0;land 9 1;land 7 2;land 5 0;dream flflflfl 9;dream ffllffll 8;dream fl 7;"
            + "dream lf 9;people 20 20;granary 40 9 7;price 3 9;");
        for (int warm = 0; warm < 2; warm++) {
            long before = threads.getThreadAllocatedBytes(Thread.currentThread().getId());
            for (int i = 0; i < 300; i++) {
                kept += x.best(5, 0) + x.choice(5, 1) + x.knowing(5, 1) + x.worth(1, 5, 0) + x.safe(1) + x.granary()
                    + x.least() + x.see(1, 7) + x.stewards(0, 0) + x.hoards(1) + x.fits() + x.drift(i, 5, 1)
                    + x.keep(0) + x.year(1) + x.back(0) + x.sheet(0, 2, 40) + x.lay(0, 1, 3) + x.read(0, 2, 0, 8)
                    + x.back(0) + x.ahead(0, 8, 1) + x.when(1) + x.feed(97) + x.end(0);
            }
            long made = threads.getThreadAllocatedBytes(Thread.currentThread().getId()) - before;
            if (warm == 1) {
                due.is("bytes made by 300 rounds of calls: " + made, made < 20000 ? 1 : 0, 1);
            }
        }
    }
}
