import java.io.ByteArrayOutputStream;
import java.io.IOException;
import java.lang.reflect.Method;
import java.lang.reflect.Modifier;
import java.net.URL;
import java.net.URLClassLoader;
import java.nio.charset.StandardCharsets;
import java.nio.file.Files;
import java.nio.file.Path;
import java.util.List;
import java.util.regex.Matcher;
import java.util.regex.Pattern;
import java.util.stream.Collectors;
import java.util.stream.Stream;
import javax.tools.JavaCompiler;
import javax.tools.ToolProvider;

/** What README.md says of the use holds, and it names every call and every test. */
public final class ReadmeTest {
    private static final Pattern EXAMPLE = Pattern.compile("```java\n(.*?)```", Pattern.DOTALL);
    private static final Pattern ANSWERED = Pattern.compile("(?m)^(court\\..*\\)); +// (\\S+)$");

    public static void main(String[] args) throws Exception {
        String page = Files.readString(Path.of("README.md"));
        example(page);
        allCalls(page);
        allTests(page);
        Check.end();
    }

    private static void example(String page) throws Exception {
        Matcher found = EXAMPLE.matcher(page);
        if (!found.find()) {
            Check.due("README.md has an example", 0, 1);
            return;
        }
        String lines = found.group(1);
        Check.due("answers that the example tells, twelve or more", Math.min(12, countOf(ANSWERED, lines)), 12);
        String asked = ANSWERED.matcher(lines).replaceAll(
            m -> Matcher.quoteReplacement("told.add(new Object[] {\"" + m.group(1) + "\", " + m.group(1) + ", " + m.group(2) + "});"));
        List<?> told = compileAndRun("public final class Example { public static java.util.List<Object[]> run() {\n"
            + "java.util.List<Object[]> told = new java.util.ArrayList<>();\n" + asked + "\nreturn told; } }\n");
        for (Object one : told) {
            Object[] row = (Object[]) one;
            Check.due("README.md: " + row[0], (Integer) row[1], (Integer) row[2]);
        }
    }

    /** What the example's calls answered and what is due; it has no access to Check, as another loader loads it. */
    private static List<?> compileAndRun(String source) throws Exception {
        Path home = Files.createTempDirectory("readme");
        try {
            Path file = Files.writeString(home.resolve("Example.java"), source);
            JavaCompiler compiler = ToolProvider.getSystemJavaCompiler();
            ByteArrayOutputStream said = new ByteArrayOutputStream();
            int code = compiler.run(null, said, said, "-encoding", "UTF-8", "-cp", System.getProperty("java.class.path"), "-d",
                home.toString(), file.toString());
            Check.due("compiling the example of README.md\n" + said.toString(StandardCharsets.UTF_8), code, 0);
            if (code != 0) return List.of();
            try (URLClassLoader loader = new URLClassLoader(new URL[] {home.toUri().toURL()}, ReadmeTest.class.getClassLoader())) {
                return (List<?>) loader.loadClass("Example").getMethod("run").invoke(null);
            }
        } finally {
            for (String name : List.of("Example.java", "Example.class")) Files.deleteIfExists(home.resolve(name));
            Files.deleteIfExists(home);
        }
    }

    private static int countOf(Pattern what, String text) {
        return (int) what.matcher(text).results().count();
    }

    private static void allCalls(String page) {
        for (Method m : SwornCourt.class.getDeclaredMethods()) {
            if (!Modifier.isPublic(m.getModifiers())) continue;
            Check.due("README.md names " + m.getName(), page.contains("`" + m.getName() + "`") ? 1 : 0, 1);
        }
    }

    private static void allTests(String page) throws IOException {
        try (Stream<Path> files = Files.list(Path.of("src/test/java"))) {
            for (Path file : files.collect(Collectors.toList())) {
                String name = file.getFileName().toString().replace(".java", "");
                Check.due("README.md names " + name, page.contains("`" + name + "`") ? 1 : 0, 1);
            }
        }
    }
}
