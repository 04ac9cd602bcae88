import java.io.IOException;
import java.lang.reflect.Executable;
import java.lang.reflect.Field;
import java.lang.reflect.Method;
import java.lang.reflect.Modifier;
import java.nio.file.Files;
import java.nio.file.Path;
import java.util.ArrayList;
import java.util.List;
import java.util.Set;
import java.util.TreeSet;
import java.util.regex.Matcher;
import java.util.regex.Pattern;

/** What of LANGUAGE.md can be told from the source's words and from the class's members. */
public final class LanguageTest {
    private static final String[] FACE = {
        "person", "rank", "die", "feud", "peace", "go", "told", "kin", "feed", "read", "fault", "law", "charge", "barred",
        "swear", "close", "find", "oath", "state", "turned", "pay", "owes", "bound", "session", "called", "lacks", "stood",
        "ring", "left", "forsaken", "count"};

    public static void main(String[] args) throws IOException {
        words(Files.readString(Path.of("src/main/java/SwornCourt.java")));
        face();
        classes();
        Check.end();
    }

    private static void words(String source) {
        String bare = source.replaceAll("(?s)/\\*.*?\\*/", "").replaceAll("//[^\n]*", "").replaceAll("\"[^\"\n]*\"", "\"\"");
        String[] barred = {"throw", "throws", "try", "catch", "synchronized", "assert", "import", "package", "protected",
            "goto", "native", "volatile", "transient", "->", "::", "\\.\\.\\.", "\"\" *\\+", "\\+ *\"\"", "Exact\\b", "Exception"};
        for (String word : barred) {
            String edge = Character.isLetter(word.charAt(0)) ? "\\b" : "";
            Matcher m = Pattern.compile(edge + word + edge).matcher(bare);
            Check.due("the word " + word, m.find() ? 1 : 0, 0);
        }
        for (char sign : source.toCharArray()) {
            if (sign > 126) Check.due("a sign beyond 126", sign, 0);
        }
        methodLengths(source.split("\n"));
    }

    private static void methodLengths(String[] lines) {
        Pattern head = Pattern.compile("^( {4}| {8})[A-Za-z].*\\) \\{$");
        for (int i = 0; i < lines.length; i++) {
            Matcher m = head.matcher(lines[i]);
            if (!m.matches()) continue;
            int end = i;
            while (end < lines.length && !lines[end].equals(m.group(1) + "}")) end++;
            Check.due("too long: " + lines[i].trim(), end - i > 60 ? 1 : 0, 0);
        }
    }

    private static void face() {
        Set<String> wanted = new TreeSet<>(List.of(FACE)), there = new TreeSet<>();
        for (Method m : SwornCourt.class.getDeclaredMethods()) {
            if (m.isSynthetic() || Modifier.isPrivate(m.getModifiers())) continue;
            there.add(m.getName());
            Check.due("public " + m.getName(), Modifier.isPublic(m.getModifiers()) ? 1 : 0, 1);
        }
        Check.due("the face: " + there, there.equals(wanted) ? 1 : 0, 1);
        Set<String> constants = new TreeSet<>();
        for (Field f : SwornCourt.class.getDeclaredFields()) {
            if (!Modifier.isPrivate(f.getModifiers())) constants.add(f.getName());
            if (Modifier.isStatic(f.getModifiers())) Check.due("final " + f.getName(), f.getModifiers() & Modifier.FINAL, 16);
        }
        Check.due("the constants: " + constants, constants.equals(Set.of("NONE", "UNKNOWN", "OUTSIDE", "NOT", "FULL")) ? 1 : 0, 1);
        Check.due("constructors", SwornCourt.class.getDeclaredConstructors().length, 1);
        Check.due("public and final", SwornCourt.class.getModifiers(), Modifier.PUBLIC | Modifier.FINAL);
    }

    private static void classes() {
        List<Class<?>> all = new ArrayList<>(List.of(SwornCourt.class.getDeclaredClasses()));
        Check.due("classes", all.size() > 11 ? 1 : 0, 0);
        for (Class<?> c : all) {
            Check.due("static " + c, c.getModifiers() & Modifier.STATIC, Modifier.STATIC);
            Check.due("public " + c, c.getModifiers() & (Modifier.PUBLIC | Modifier.PROTECTED), 0);
        }
        all.add(SwornCourt.class);
        Set<String> face = new TreeSet<>(List.of(FACE));
        for (Class<?> c : all) {
            int fields = 0;
            for (Field f : c.getDeclaredFields()) if (!Modifier.isStatic(f.getModifiers())) fields++;
            Check.due("fields of " + c, fields > 20 ? fields : 0, 0);
            List<Executable> calls = new ArrayList<>(List.of(c.getDeclaredMethods()));
            calls.addAll(List.of(c.getDeclaredConstructors()));
            for (Executable e : calls) {
                Check.due("parameters of " + e, e.getParameterCount() > 7 ? 1 : 0, 0);
                boolean own = c == SwornCourt.class && Modifier.isPublic(e.getModifiers());
                if (!own) Check.due("a name of the face: " + e, face.contains(e.getName()) ? 1 : 0, 0);
            }
        }
    }
}
