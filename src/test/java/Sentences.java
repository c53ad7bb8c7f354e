import java.io.IOException;
import java.nio.file.Files;
import java.nio.file.Path;
import java.util.ArrayList;
import java.util.List;
import java.util.regex.Matcher;
import java.util.regex.Pattern;

/**
 * Tests that each tell the sentence of ../shared/DOC.md that they are of, in its own words: a sentence that the
 * document has not is wrong, and at the end so is each one of the Terms and promises that no test is of.
 */
final class Sentences extends Due {
    /** A call on a county, that is to be refused. */
    interface Call {
        int on(LeftShoes x);
    }

    private static final String TERMS = "## Terms ", PROMISE = "## Promise ", END = "## Not promised";
    /** What is no sentence: heads, the signatures (FaceTest has them), where the calls begin. */
    private static final Pattern NO_SENTENCE = Pattern.compile(
            "## Terms|## Promise \\d+: [A-Za-z ]+? (?=`)|`(int )?\\w+\\([\\w ,]*\\)`:?|Ahead of the calls (`\\w+`(, )?)+ the interface says:"
            + "|---- 1 people, shoes, taxes\\.|---- 2 walks\\.|---- 3 fords, markets, brothers\\.|==== [123]|```(text)?");

    private final String doc;
    private final boolean[] isTold;
    private final int end;

    Sentences() throws IOException {
        doc = Files.readString(Path.of("../shared/DOC.md")).replaceAll("\\s+", " ");
        isTold = new boolean[doc.length()];
        end = doc.indexOf(END);
    }

    /** Begins a test of a sentence ahead of the promises. */
    void terms(String sentence) {
        begin("Terms", 0, doc.indexOf(PROMISE), sentence);
    }

    /** Begins a test of a sentence of a promise. */
    void promise(int number, String sentence) {
        int from = doc.indexOf(PROMISE + number + ":");
        int next = doc.indexOf(PROMISE, from + 1);
        begin("Promise " + number, from, next < 0 ? end : next, sentence);
    }

    private void begin(String where, int from, int to, String sentence) {
        of(where + ", \"" + sentence + "\"");
        int at = doc.indexOf(sentence, from);
        boolean isOnce = from >= 0 && at >= from && at + sentence.length() <= to;
        holds("the document says that", isOnce);
        if (isOnce) {
            int again = doc.indexOf(sentence, at + 1);
            holds("it says that once there", again < 0 || again >= to);
            for (int k = 0; k < sentence.length(); k++) {
                isTold[at + k] = true;
            }
        }
    }

    /** The call is refused so by a county that has something of everything, and nothing is changed by it. */
    void refused(String call, int want, Call refused) {
        refused(County.rich(), County.rich(), call, want, refused);
    }

    /** Likewise by one that has no room for more. */
    void refusedByFull(String call, int want, Call refused) {
        refused(County.full(), County.full(), call, want, refused);
    }

    /** The call on a county that has something of everything is not refused, but changes nothing either. */
    void tells(String call, int want, Call told) {
        refused(call, want, told);
    }

    private void refused(LeftShoes x, LeftShoes untouched, String call, int want, Call refused) {
        is(call, refused.on(x), want);
        String before = County.seen(untouched);
        String behind = County.seen(x);
        holds(call + " changes nothing, but " + before + " became " + behind, before.equals(behind));
    }

    /** A last case: what of the document no test is of. */
    void untold() {
        of("each sentence of the Terms, of each promise has a test");
        Matcher none = NO_SENTENCE.matcher(doc);
        while (none.find()) {
            for (int k = none.start(); k < none.end(); k++) {
                isTold[k] = true;
            }
        }
        for (String piece : pieces()) {
            holds("a test of \"" + piece + "\"", false);
        }
    }

    private List<String> pieces() {
        List<String> all = new ArrayList<>();
        StringBuilder piece = new StringBuilder();
        for (int k = doc.indexOf(TERMS); k < end; k++) {
            if (!isTold[k]) {
                piece.append(doc.charAt(k));
            }
            if ((isTold[k] || k == end - 1) && piece.length() > 0) {
                if (piece.chars().anyMatch(Character::isLetterOrDigit)) {
                    all.add(piece.toString().strip());
                }
                piece.setLength(0);
            }
        }
        return all;
    }
}
