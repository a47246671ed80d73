import java.lang.reflect.Method;
import java.lang.reflect.Modifier;
import java.net.URL;
import java.net.URLClassLoader;
import java.nio.file.Files;
import java.nio.file.Path;
import java.util.ArrayList;
import java.util.List;
import java.util.regex.Matcher;
import java.util.regex.Pattern;
import javax.tools.JavaCompiler;
import javax.tools.ToolProvider;

/** The examples of README.md, one behind another, are compiled and run: each call answers the number told behind it. */
public final class ReadmeTest {
    private static final Pattern EXAMPLE = Pattern.compile("(?s)```java\n(.*?)```");
    private static final Pattern ANSWERED = Pattern.compile("(court\\.\\w+\\(.*?\\));\\s*// (-?\\d+).*");

    public static void main(String[] args) throws Exception {
        String page = Files.readString(Path.of(args.length > 0 ? args[0] : ".", "README.md"));
        Due due = new Due();
        examples(due, page);
        everyCall(due, page);
        due.finish();
    }

    private static void examples(Due due, String page) throws Exception {
        List<String> calls = new ArrayList<>();
        List<Long> told = new ArrayList<>();
        StringBuilder body = new StringBuilder();
        Matcher m = EXAMPLE.matcher(page);
        while (m.find()) {
            for (String line : m.group(1).split("\n")) {
                body.append(withAnswer(line, calls, told)).append('\n');
            }
        }
        List<?> got = run(body.toString());
        due.is("answers in README.md", got.size(), told.size());
        due.is("some answers in README.md", told.size() >= 40 ? 1 : 0, 1);
        for (int i = 0; i < got.size(); i++) {
            due.is("README.md: " + calls.get(i), (Long) got.get(i), told.get(i));
        }
    }

    /** A line whose call has an answer told behind it gathers that answer when it is run. */
    private static String withAnswer(String line, List<String> calls, List<Long> told) {
        Matcher m = ANSWERED.matcher(line);
        if (!m.matches()) {
            return line;
        }
        calls.add(m.group(1));
        told.add(Long.parseLong(m.group(2)));
        return "answers.add((long) " + m.group(1) + ");";
    }

    private static List<?> run(String body) throws Exception {
        Path folder = Files.createTempDirectory("readme");
        Path file = folder.resolve("ReadmeRun.java");
        Path made = folder.resolve("ReadmeRun.class");
        try {
            Files.writeString(file, "public class ReadmeRun {\npublic static java.util.List<Long> answers() {\n"
                + "java.util.List<Long> answers = new java.util.ArrayList<>();\n" + body + "return answers;\n}\n}\n");
            JavaCompiler javac = ToolProvider.getSystemJavaCompiler();
            String classes = System.getProperty("java.class.path");
            if (javac.run(null, null, null, "-cp", classes, "-d", folder.toString(), file.toString()) != 0) {
                throw new IllegalStateException("the examples of README.md do not compile");
            }
            try (URLClassLoader loader = new URLClassLoader(new URL[] {folder.toUri().toURL()})) {
                return (List<?>) loader.loadClass("ReadmeRun").getMethod("answers").invoke(null);
            }
        } finally {
            Files.deleteIfExists(made);
            Files.deleteIfExists(file);
            Files.deleteIfExists(folder);
        }
    }

    private static void everyCall(Due due, String page) {
        for (Method m : FatLean.class.getDeclaredMethods()) {
            if (Modifier.isPublic(m.getModifiers())) {
                boolean stands = page.contains("court." + m.getName() + "(") || page.contains("`" + m.getName() + "`");
                due.is("README.md has " + m.getName(), stands ? 1 : 0, 1);
            }
        }
    }
}
