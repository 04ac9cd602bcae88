import java.io.IOException;
import java.nio.file.Files;
import java.nio.file.Path;

/** Counts the answers that are not as due, and tells them. */
final class Check {
    static final int NONE = SwornCourt.NONE, UNKNOWN = SwornCourt.UNKNOWN, OUTSIDE = SwornCourt.OUTSIDE;
    static final int NOT = SwornCourt.NOT, FULL = SwornCourt.FULL;

    private static final Path DOCUMENT = Path.of("../shared/DOC.md");

    private static int wrong = 0;
    private static int asked = 0;
    private static String document = null;
    private static String sentence = "";

    private Check() {
    }

    static void due(String call, long got, long want) {
        asked++;
        if (got == want) return;
        wrong++;
        System.out.println(sentence + call + " answered " + got + ", due is " + want);
    }

    /** The answers that come now are held against these words, which must stand in the document. */
    static void edge(String words) {
        sentence = "";
        if (document == null) document = readDocument();
        due("the document says '" + words + "'", document.isEmpty() || document.contains(words) ? 1 : 0, 1);
        sentence = "'" + words + "': ";
    }

    /** Nothing, where the document is not at hand: the tests hold without it. */
    private static String readDocument() {
        try {
            return Files.exists(DOCUMENT) ? Files.readString(DOCUMENT).replaceAll("\\s+", " ") : "";
        } catch (IOException e) {
            return "";
        }
    }

    /** Ends with exit code 1 if one answer was wrong. */
    static void end() {
        System.out.println(asked + " answers looked at, " + wrong + " wrong");
        if (wrong > 0) System.exit(1);
    }

    /** Feeds a text, eight bytes a call; the signs are bytes 0 to 255. */
    static int feed(SwornCourt x, String text) {
        int answer = 0;
        for (int i = 0; i < text.length(); i += 8) {
            int n = Math.min(8, text.length() - i);
            long bytes = 0;
            for (int k = 0; k < n; k++) bytes = bytes << 8 | text.charAt(i + k);
            answer = x.feed(n, bytes);
        }
        return answer;
    }

    static int read(SwornCourt x, String text) {
        feed(x, text);
        return x.read();
    }

    /** A new object with a law. */
    static SwornCourt under(String text) {
        SwornCourt x = new SwornCourt();
        int parts = read(x, text);
        if (parts < 1) due("read of " + text, parts, 1);
        return x;
    }

    /** As many PERSONS without parents, grown, each of a HOUSE of its own as far as these go, RANK 0, WILL 4. */
    static void people(SwornCourt x, int n) {
        for (int i = 0; i < n; i++) x.person(-9000, i % 8, 0, NONE, NONE, 4);
    }

    static void fault(String text, int number, int at) {
        SwornCourt x = new SwornCourt();
        due("read of '" + text + "'", read(x, text), -10 - number);
        due("fault of '" + text + "'", x.fault(), at);
    }
}
