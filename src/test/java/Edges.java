import java.io.IOException;
import java.nio.file.Files;
import java.nio.file.Path;
import java.util.function.ToLongFunction;

/**
 * Checks, each under the words of the document that it holds to. Those words must stand in the document, and each of
 * them must have a check.
 */
final class Edges {
    private static final Path DOCUMENT = Path.of("../shared/DOC.md");

    private final Check check = new Check();
    private final String document = read();
    private String words = "";
    private int checksOfWords = 1;

    /** Null, if the document is not at hand: what the class answers can be checked without it. */
    private static String read() {
        try {
            return Files.readString(DOCUMENT);
        } catch (IOException e) {
            System.out.println("there is no " + DOCUMENT + ": words are not looked up");
            return null;
        }
    }

    private static String folded(String text) {
        return text.replaceAll("\\s+", " ");
    }

    /** What is checked from here on holds to these words. */
    void sentence(String quoted) {
        check.holds("there is a check of: " + words, checksOfWords > 0);
        words = quoted;
        checksOfWords = 0;
        check.holds("the document says: " + quoted, document == null || folded(document).contains(folded(quoted)));
    }

    void due(String call, long got, long want) {
        checksOfWords++;
        check.due("[" + words + "] " + call, got, want);
    }

    /** However it stands, the call is refused so, and changes nothing. */
    void refused(String call, long want, ToLongFunction<OxenKneel> called) {
        for (Standing standing : Standing.values()) {
            refusedAt(standing, call, want, called);
        }
    }

    void refusedAt(Standing standing, String call, long want, ToLongFunction<OxenKneel> called) {
        OxenKneel x = standing.made();
        due(standing + ": " + call, called.applyAsLong(x), want);
        isLikeUncalled(standing, call, x);
    }

    /** However it stands, the call changes nothing, whatever it answers. */
    void changesNothing(String call, ToLongFunction<OxenKneel> called) {
        for (Standing standing : Standing.values()) {
            OxenKneel x = standing.made();
            called.applyAsLong(x);
            isLikeUncalled(standing, call, x);
        }
    }

    private void isLikeUncalled(Standing standing, String call, OxenKneel x) {
        checksOfWords++;
        String difference = Trace.difference(x, standing.made());
        check.holds("[" + words + "] " + standing + ": behind " + call + " all is as ahead of it, but " + difference,
            difference == null);
    }

    void finish() {
        check.holds("there is a check of: " + words, checksOfWords > 0);
        check.finish();
    }
}
