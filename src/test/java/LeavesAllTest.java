import java.util.ArrayList;
import java.util.List;
import java.util.function.Function;

/** What is asked changes nothing, and what is told changes only what it is about. */
public final class LeavesAllTest {
    private static final Due DUE = new Due("LeavesAllTest");
    private static final int FEEDS = 3;
    private static final String[] TAPE = {"count(6)", "UNDONE: count(6)", "bark(", "told by the tape: "};

    private LeavesAllTest() { }

    public static void main(String[] args) {
        asked();
        told();
        undoneOfNone();
        DUE.end();
    }

    private static void asked() {
        for (int what = 0; what <= 7; what++) {
            int n = what;
            leaves("count(" + n + ")", g -> g.count(n));
        }
        for (int c = 0; c < 6; c++) {
            askedOfCut(c);
        }
        for (int what = 0; what <= 1; what++) {
            int n = what;
            leaves("single(" + n + ")", g -> g.single(n));
            leaves("dates(" + (n + 1) + ")", g -> g.dates(n + 1));
            leaves("busiest(" + n + ")", g -> g.busiest(n));
            leaves("fence(" + n + ")", g -> g.fence(n));
            leaves("round(7, " + n + ")", g -> g.round(7, n));
            leaves("tried(20, " + n + ")", g -> g.tried(20, n));
        }
        leaves("dates(0)", g -> g.dates(0));
        leaves("tried(20, 2)", g -> g.tried(20, 2));
        leaves("letters()", g -> g.letters());
        leaves("yard(0, 23, 0, 15)", g -> g.yard(0, 23, 0, 15));
        leaves("groups(6, 100)", g -> g.groups(6, 100));
        leaves("crossing()", g -> g.crossing());
        leaves("paths()", g -> g.paths());
        leaves("trees()", g -> g.trees());
    }

    private static void askedOfCut(int c) {
        for (int what = 0; what <= 12; what++) {
            int n = what;
            leaves("cutIs(" + c + ", " + n + ")", g -> g.cutIs(c, n));
        }
        for (int from = 20; from <= 60; from += 20) {
            int n = from + c;
            leaves("tried(20, " + n + ")", g -> g.tried(20, n));
        }
        leaves("meet(" + c + ", next, 30)", g -> g.meet(c, (c + 1) % 6, 30));
        leaves("roots(" + c + ", 30)", g -> g.roots(c, 30));
        leaves("strays(" + c + ", 30)", g -> g.strays(c, 30));
        leaves("who(" + c + ")", g -> g.who(c));
        leaves("nearest(" + c + ", 0)", g -> g.nearest(c, 0));
        leaves("nearest(" + c + ", 1)", g -> g.nearest(c, 1));
        leaves("groups(6, " + c + ")", g -> g.groups(6, c));
    }

    private static void told() {
        changesOnly("home(0, 2, 2)", g -> g.home(0, 2, 2), "cutIs(0, 7)", "UNDONE: cutIs(0, 7)", "tried");
        changesOnly("seed(9)", g -> g.seed(9), "count(7)", "tried");
        changesOnly("keep()", g -> g.keep(), "UNDONE: ", "told by the tape: count(0)", "told by the tape: count(7)");
        changesOnly("feed", g -> g.feed(0x31312C33, 0, 0, 0, 0), TAPE);
        changesOnly("undo()", g -> g.undo(), "count(0)", "count(2)", "count(3)", "count(4)", "count(7)", "cutIs(", "tried");
        changesOnly("law(5)", g -> g.law(5), TAPE);
        changesOnly("words(5, 0)", g -> g.words(5, 0), TAPE);
    }

    /** Where none is KEPT, undo is refused, and all stays. */
    private static void undoneOfNone() {
        GrownInitials asked = notKept();
        DUE.is("undo() of none", asked.undo(), false);
        List<String> changed = unlike(Look.at(asked), Look.at(notKept()));
        DUE.is("undo() of none changes " + changed, changed.isEmpty(), true);
    }

    private static GrownInitials notKept() {
        GrownInitials g = Due.common("1,1:A&B;5,1:[C]07>;1,6:xD&", "v2(1=1);f3+w(1=1)");
        g.home(0, 7, 4);
        g.seasons(5);
        Due.feed(g, Due.bytesOf("13,3:A&B;9,15:[C]77;13,3:A&B;9,15:[C]77;"));
        return g;
    }

    private static void leaves(String call, Function<GrownInitials, Object> ask) {
        changesOnly(call, ask);
    }

    /** Held against a twin without the call: what is unlike must begin as one of these. */
    private static void changesOnly(String call, Function<GrownInitials, Object> ask, String... about) {
        GrownInitials asked = Look.grown(FEEDS);
        ask.apply(asked);
        List<String> wrong = new ArrayList<>();
        for (String seen : unlike(Look.at(asked), Look.at(Look.grown(FEEDS)))) {
            boolean isAbout = false;
            for (String start : about) {
                isAbout |= seen.startsWith(start);
            }
            if (!isAbout) {
                wrong.add(seen);
            }
        }
        DUE.is(call + " changes " + wrong, wrong.isEmpty(), true);
    }

    /** What is seen in one of them only. */
    private static List<String> unlike(List<String> got, List<String> want) {
        List<String> unlike = new ArrayList<>();
        for (String seen : got) {
            if (!want.contains(seen)) {
                unlike.add(seen);
            }
        }
        for (String seen : want) {
            if (!got.contains(seen)) {
                unlike.add(seen);
            }
        }
        return unlike;
    }
}
