import java.util.ArrayList;
import java.util.List;
import java.util.function.ToLongFunction;
import java.util.regex.Matcher;
import java.util.regex.Pattern;

/**
 * The sentences of the document that name a boundary case: each is quoted, and what is asked then
 * is asked of it. What names a bound in the document and is quoted nowhere is told at the end.
 */
final class Bounds {
    private static final Pattern BOUND = Pattern.compile(
        "\\d+|\\b(NONE|none|None|No|no|false|empty|at most|at least|nothing|at first|refused|REFUSED|stays)\\b");
    private static final Pattern UNBOUND = Pattern.compile("==== \\d\\.|## Promise \\d+: [^`]*`[^`]*`");

    private final Due due = new Due("BoundsTest");
    private final String document;
    private final boolean[] isQuoted;
    private int partFrom;
    private int partTo;
    private String sentence = "";
    private int sentences;
    private int askedOfSentence;

    /** Without the document (an empty text) all is asked as well, but no quote is looked up. */
    Bounds(String text) {
        document = oneBlank(text);
        isQuoted = new boolean[document.length()];
        partTo = document.length();
    }

    private static String oneBlank(String text) {
        return text.replaceAll("\\s+", " ");
    }

    /** The sentences that follow are those of this part of the document. */
    void part(String heading) {
        endSentence();
        if (document.isEmpty()) {
            return;
        }
        int from = document.indexOf("## " + heading);
        due.is("the document has a part " + heading, from >= 0, true);
        partFrom = Math.max(0, from);
        int next = document.indexOf(" ## ", partFrom + 1);
        partTo = next < 0 ? document.length() : next;
    }

    void promise(int number) {
        part("Promise " + number + ":");
    }

    void sentence(String quote) {
        endSentence();
        sentence = oneBlank(quote);
        sentences++;
        if (document.isEmpty()) {
            return;
        }
        int from = document.indexOf(sentence, partFrom);
        boolean isThere = from >= 0 && from + sentence.length() <= partTo;
        due.is("the document says there \"" + sentence + "\"", isThere, true);
        for (int i = 0; isThere && i < sentence.length(); i++) {
            isQuoted[from + i] = true;
        }
    }

    private void endSentence() {
        if (!sentence.isEmpty()) {
            due.is("something is asked of \"" + sentence + "\"", askedOfSentence > 0, true);
        }
        sentence = "";
        askedOfSentence = 0;
    }

    void is(String call, long got, long want) {
        askedOfSentence++;
        due.is("\"" + sentence + "\": " + call, got, want);
    }

    void is(String call, boolean got, boolean want) {
        is(call, got ? 1 : 0, want ? 1 : 0);
    }

    private void areAlike(String call, List<String> got, List<String> want) {
        String unlike = "";
        for (int i = 0; i < Math.max(got.size(), want.size()) && unlike.isEmpty(); i++) {
            String one = i < got.size() ? got.get(i) : "none";
            String other = i < want.size() ? want.get(i) : "none";
            unlike = one.equals(other) ? "" : one + " in place of " + other;
        }
        is(call + " leaves all as it was: " + unlike, unlike.isEmpty(), true);
    }

    /** The answer is due, and nothing is changed, the tape (of so many feeds) neither. */
    void leavesAll(int feeds, String call, ToLongFunction<GrownInitials> ask, long want) {
        GrownInitials asked = Look.grown(feeds);
        is(call, ask.applyAsLong(asked), want);
        areAlike(call, Look.at(asked), Look.at(Look.grown(feeds)));
    }

    /** The answer is due; then the tape is empty, and nothing else is changed. */
    void emptiesTape(int[] bytes, String call, ToLongFunction<GrownInitials> ask, long want) {
        GrownInitials asked = Look.grown(0);
        Due.feed(asked, bytes);
        is(call, ask.applyAsLong(asked), want);
        areAlike(call, Look.at(asked), Look.at(Look.grown(0)));
    }

    void end() {
        endSentence();
        for (String bound : unquoted()) {
            due.is("a bound without a test: " + bound, false, true);
        }
        String lookedUp = document.isEmpty() ? ", no document to look them up in" : ", looked up in the document";
        System.out.println("BoundsTest: " + sentences + " sentences" + lookedUp);
        due.end();
    }

    private List<String> unquoted() {
        StringBuilder text = new StringBuilder(document);
        Matcher unbound = UNBOUND.matcher(document);
        while (unbound.find()) {
            for (int i = unbound.start(); i < unbound.end(); i++) {
                text.setCharAt(i, ' ');
            }
        }
        List<String> left = new ArrayList<>();
        int from = document.indexOf("## Terms");
        int to = document.indexOf("## Not promised");
        Matcher bound = BOUND.matcher(text).region(Math.max(0, from), Math.max(0, to));
        while (bound.find()) {
            if (!isQuoted[bound.start()]) {
                int start = Math.max(0, bound.start() - 40);
                left.add(document.substring(start, Math.min(document.length(), bound.end() + 40)));
            }
        }
        return left;
    }
}
