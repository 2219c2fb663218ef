import java.io.IOException;
import java.nio.file.Files;
import java.nio.file.Path;

/** The document's own words, so that each test of an edge names the sentence that it holds to. */
final class Document {
    private static final Path PLACE = Path.of("../shared/DOC.md");
    private static String words;
    private static String sentence = "";

    private Document() {
    }

    /** What is checked from here on is checked for this sentence, which must stand in the document. */
    static void says(String fragment) {
        sentence = fragment;
        Check.holds("the document says: " + fragment, isMissing() || words().contains(fragment));
    }

    static void is(String what, long got, long due) {
        Check.is("'" + sentence + "': " + what, got, due);
    }

    static void holds(String what, boolean it) {
        is(what, it ? 1 : 0, 1);
    }

    static void fraction(String what, long upper, long lower, long dueUpper, long dueLower) {
        is(what + ", upper", upper, dueUpper);
        is(what + ", lower", lower, dueLower);
    }

    private static boolean isMissing() {
        return !Files.isReadable(PLACE);
    }

    private static String words() {
        if (words == null) {
            try {
                words = Files.readString(PLACE).replaceAll("\\s+", " ");
            } catch (IOException e) {
                words = "";
            }
        }
        return words;
    }
}
