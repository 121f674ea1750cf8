import java.io.IOException;
import java.io.UncheckedIOException;
import java.nio.file.Files;
import java.nio.file.Path;

/**
 * Ties each test to the words of the document that it is of: a test that is of no words there, words without a test, and
 * words of the promises in question that no test is of, all count as wrong.
 */
final class Sentences {
    /** Where the number of a promise is asked for: what the document says under 'Terms'. */
    static final int TERMS = 0;
    private static final Path DOCUMENT = Path.of("../shared/DOC.md");

    private final Check check;
    private final int first;
    private final String[] bodies;
    private final boolean[][] quoted;
    private String words = "";
    private int promise;
    private int asked = 1;

    /** For tests of all that the promises first to last say. */
    Sentences(String name, int first, int last) {
        this.check = new Check(name);
        this.first = first;
        bodies = new String[last - first + 1];
        quoted = new boolean[bodies.length][];
        String document = read();
        for (int i = 0; i < bodies.length; i++) {
            bodies[i] = first + i == TERMS ? terms(document) : body(document, first + i);
            quoted[i] = new boolean[bodies[i].length()];
        }
    }

    private static String read() {
        try {
            return Files.readString(DOCUMENT);
        } catch (IOException e) {
            throw new UncheckedIOException(e);
        }
    }

    private static String between(String text, String head, String tail) {
        int from = text.indexOf(head);
        if (from < 0) {
            throw new IllegalStateException("the document has no " + head);
        }
        int to = text.indexOf(tail, from + head.length());
        return text.substring(from + head.length(), to < 0 ? text.length() : to);
    }

    private static String plain(String text) {
        return text.replaceAll("```(text)?", " ").replaceAll("\\s+", " ").strip();
    }

    private static String terms(String document) {
        return plain(between(document, "\n## Terms\n", "\nAhead of the calls").replaceAll("(?m)^======== [12] ", ""));
    }

    private static String body(String document, int number) {
        String section = between(document, "\n## Promise " + number + ":", "\n## ");
        return plain(section.substring(section.indexOf("`: ") + 3));
    }

    /** The tests from here on are of these words of a promise. */
    void of(int number, String quote) {
        close();
        words = quote;
        promise = number;
        asked = 0;
        boolean[] marks = quoted[number - first];
        int at = placeOf(bodies[number - first], plain(quote), marks);
        check.holds("promise " + number + " does not say '" + quote + "'", at >= 0);
        for (int i = Math.max(at, 0); at >= 0 && i < at + plain(quote).length(); i++) {
            marks[i] = true;
        }
    }

    /** Words that stand there twice are first those that no test has been of. */
    private static int placeOf(String body, String quote, boolean[] marks) {
        for (int at = body.indexOf(quote); at >= 0; at = body.indexOf(quote, at + 1)) {
            if (!marks[at]) {
                return at;
            }
        }
        return body.indexOf(quote);
    }

    private void close() {
        check.holds("promise " + promise + ": no test of '" + words + "'", asked > 0);
    }

    void due(String call, long got, long want) {
        asked++;
        check.due("promise " + promise + ", '" + words + "': " + call, got, want);
    }

    void same(String what, String got, String want) {
        asked++;
        check.holds("promise " + promise + ", '" + words + "': " + what + " is told as\n  " + got + "\ndue is\n  " + want,
                got.equals(want));
    }

    void finish() {
        close();
        for (int i = 0; i < bodies.length; i++) {
            String left = leftOut(bodies[i], quoted[i]);
            check.holds("promise " + (first + i) + ": no test is of '" + left + "'", left.isEmpty());
        }
        check.finish();
    }

    private static String leftOut(String body, boolean[] marks) {
        StringBuilder left = new StringBuilder();
        for (int i = 0; i < marks.length; i++) {
            if (!marks[i] && Character.isLetterOrDigit(body.charAt(i))) {
                left.append(body.charAt(i));
            }
        }
        return left.toString();
    }
}
