import java.io.IOException;
import java.lang.reflect.Method;
import java.nio.file.Files;
import java.nio.file.Path;
import java.util.Arrays;
import java.util.Set;
import java.util.TreeSet;

/**
 * Holds the boundary tests against the document: what they say that they are of stands there, each promise has some, and
 * no sentence of what the class must do is left out.
 */
public final class SentencesTest {
    private static final Path DOCUMENT = Path.of("../shared/DOC.md");
    private static final Class<?>[] TESTS = {SpaceEdgesTest.class, ClassEdgesTest.class, MetEdgesTest.class,
        CurveEdgesTest.class, TapeEdgesTest.class, ListEdgesTest.class, ActEdgesTest.class};
    /** What leads from one part of the document to the next. */
    private static final String[] BESIDE = {"## Terms", "```text", "========", "CHANGES:", "ANSWERS that are refusals",
        "SO THAT NOTHING IS READ TWO WAYS.", "In doubt."};
    /** The heads of the promises with the calls' own lines, and those of the interface. */
    private static final String HEADS = "## Promise \\d+: [^`]*`[^`]*`:|Ahead of the calls [^-]*---- [^.]*\\.";

    public static void main(String[] args) throws IOException {
        promises();
        if (Files.exists(DOCUMENT)) {
            sentences(Files.readString(DOCUMENT).replaceAll("\\s+", " ").replaceAll(HEADS, " "));
        } else {
            System.out.println("SentencesTest: no document at " + DOCUMENT + ", so that no sentence is looked for");
        }
        Due.end("SentencesTest");
    }

    /** Each promise has boundary tests, and each of these bears its promise's number in its name. */
    private static void promises() {
        Set<Integer> promises = new TreeSet<>();
        for (Class<?> tests : TESTS) {
            for (Method method : Edges.of(tests)) {
                int promise = method.getAnnotation(Says.class).promise();
                promises.add(promise);
                Due.yes(method.getName() + " bears its promise", method.getName().startsWith(String.format("p%02d_", promise)));
            }
        }
        for (int promise = 1; promise <= 45; promise++) {
            Due.yes("promise " + promise + " has boundary tests", promises.contains(promise));
        }
    }

    private static void sentences(String document) {
        boolean[] told = new boolean[document.length()];
        for (Class<?> tests : TESTS) {
            for (Method method : Edges.of(tests)) {
                for (String sentence : method.getAnnotation(Says.class).value()) {
                    Due.yes(method.getName() + " is of: " + sentence, mark(document, sentence, told));
                }
            }
        }
        for (String words : BESIDE) {
            mark(document, words, told);
        }
        int from = document.indexOf("## Terms");
        int to = document.indexOf("## Not promised");
        Due.yes("the document has its parts", from > 0 && to > from);
        leftOut(document, told, from, to);
    }

    /** Marks each place where the words stand; false, if there is none. */
    private static boolean mark(String document, String words, boolean[] told) {
        int at = document.indexOf(words);
        boolean found = at >= 0;
        while (at >= 0) {
            Arrays.fill(told, at, at + words.length(), true);
            at = document.indexOf(words, at + 1);
        }
        return found;
    }

    /** No letter or figure of what the class must do is left unmarked. */
    private static void leftOut(String document, boolean[] told, int from, int to) {
        int at = from;
        while (at < to) {
            int end = at;
            while (end < to && told[end] == told[at]) {
                end++;
            }
            String words = document.substring(at, end);
            Due.yes("some boundary test is of: " + words, told[at] || !words.matches(".*[A-Za-z0-9].*"));
            at = end;
        }
    }
}
