import java.util.ArrayList;
import java.util.List;

/** A common in the middle of its life, and all that can be seen of one. */
final class Look {
    private static final String LAW = "x(c=5&t>3);v2+w/4(1=1);f99(c=3&t>4);f3+w(1=1)";

    private Look() { }

    /** With cuts in each state, one of them rooted, one felled; kept a while ago; so many feeds on the tape. */
    static GrownInitials grown(int feeds) {
        GrownInitials g = Due.common("1,1:A&B;5,1:[C]07>;1,6:xD&;20,14:EP99;9,9:x[G];12,3:H", LAW);
        g.home(0, 7, 4);
        g.home(1, 5, 9);
        g.home(2, 3, 6);
        g.home(3, 0, 15);
        g.home(4, 9, 0);
        g.seed(4711);
        g.seasons(4);
        g.keep();
        g.seasons(3);
        for (int i = 0; i < feeds; i++) {
            int[] twenty = Due.bytesOf("1" + i % 10 + ",3:A&B;9,15:[C]77;");
            g.feed(Due.word(twenty, 0), Due.word(twenty, 4), Due.word(twenty, 8), Due.word(twenty, 12),
                Due.word(twenty, 16));
        }
        return g;
    }

    /** Asks for all, at last by calls that change it: each may be looked at once only. */
    static List<String> at(GrownInitials g) {
        List<String> seen = new ArrayList<>();
        standing(g, "", seen);
        for (int n = 1; n <= 9; n += 4) {
            for (int what = 0; what <= 2; what++) {
                seen.add("tried(" + n + ", " + what + ") " + g.tried(n, what));
            }
            for (int c = 0; c < g.count(1); c++) {
                seen.add("tried(" + n + ", 20 + " + c + ") " + g.tried(n, 20 + c));
                seen.add("tried(" + n + ", 40 + " + c + ") " + g.tried(n, 40 + c));
            }
        }
        seen.add("undo() " + g.undo());
        standing(g, "UNDONE: ", seen);
        int fed = Math.min(g.count(6), 160);
        if (fed > 0) {
            seen.add("bark(" + (fed - 1) + ") " + g.bark(fed - 1));
            standing(g, "told by the tape: ", seen);
        }
        return seen;
    }

    private static void standing(GrownInitials g, String when, List<String> seen) {
        for (int what = 0; what <= 7; what++) {
            seen.add(when + "count(" + what + ") " + g.count(what));
        }
        for (int c = 0; c < g.count(1) && c < 8; c++) {
            for (int what = 0; what <= 12; what++) {
                seen.add(when + "cutIs(" + c + ", " + what + ") " + g.cutIs(c, what));
            }
        }
    }
}
