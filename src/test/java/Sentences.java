import java.io.IOException;
import java.nio.file.Files;
import java.nio.file.Path;
import java.util.ArrayList;
import java.util.List;

/**
 * Answers held against sentences of the document. Each test says first which promise and which
 * sentence it is about; what is quoted must stand in the document, and of the promises a test file
 * takes on no word may be left without a test.
 */
final class Sentences {
    private static final Path DOCUMENT = Path.of("../shared/DOC.md");

    private final Due due = new Due();
    private final List<Integer> promises = new ArrayList<>();
    private final List<String> quotes = new ArrayList<>();
    private String current = "";

    /** What is asked from here on is about this sentence of the document. */
    void of(int promise, String sentence) {
        promises.add(promise);
        quotes.add(sentence);
        current = "promise " + promise + ", \"" + sentence + "\": ";
    }

    void is(String call, long got, long want) {
        due.is(current + call, got, want);
    }

    void so(String what, boolean holds) {
        due.so(current + what, holds);
    }

    void same(String what, String got, String want) {
        due.so(current + what + " is " + got + ", due is " + want, got.equals(want));
    }

    void shades(String when, ShadeTree x, String want) {
        same(when, Pictures.shades(x), want);
    }

    /** Ends the test file that takes on the promises first .. last. */
    void end(int first, int last) {
        String document = document();
        for (int i = 0; i < quotes.size(); i++) {
            due.so("the document has no \"" + quotes.get(i) + "\"", document.contains(quotes.get(i)));
        }
        for (int promise = first; promise <= last; promise++) {
            String untested = untested(document, promise);
            due.so("promise " + promise + " has words without a test: " + untested,
                    untested.chars().noneMatch(Character::isLetterOrDigit));
        }
        due.end();
    }

    private static String document() {
        try {
            return Files.readString(DOCUMENT).replaceAll("\\s+", " ");
        } catch (IOException e) {
            throw new IllegalStateException("the document can not be read: " + DOCUMENT, e);
        }
    }

    /** The words of a promise, behind its signature, without those that were quoted for it. */
    private String untested(String document, int promise) {
        int from = document.indexOf("## Promise " + promise + ":");
        int signatureEnd = from < 0 ? -1 : document.indexOf("`: ", from);
        int to = signatureEnd < 0 ? -1 : document.indexOf(" ## ", signatureEnd);
        if (to < 0) {
            return "the promise is not there";
        }
        String words = document.substring(signatureEnd + 3, to);
        for (int i = 0; i < quotes.size(); i++) {
            if (promises.get(i) == promise) {
                words = words.replace(quotes.get(i), "|");
            }
        }
        return words;
    }
}
