import java.util.ArrayDeque;
import java.util.ArrayList;
import java.util.List;
import java.util.Queue;
import java.util.Random;
import java.util.function.Function;

/** "All memory is the common's own": a common answers among others what it answers alone. */
public final class SideBySideTest {
    private static final Due DUE = new Due("SideBySideTest");
    private static final int CALLS = 480;
    private static final String[] BARKS = {"0,0:A", "0,0:A&B;4,0:[C]07>;2,3:xD&", "3,3:AB99>;3,3:xC;23,15:[P&];9,0:xF>",
        "1,1:A;2,1:B;3,1:C;4,1:D;5,1:E;6,1:F;7,1:G;8,1:H;9,1:I", "5,5:A;5,5:A", "5,5:A;24,5:A", "5,5:AA", "5,5"};
    private static final String[] LAWS = {"v2(1=1)", "f9+w(h=0)", "v9(d>3);v0(s=2);f[m/3](w>4)", "x(w=7&t>2);f40(c=0)",
        "f99(w=1)", "v1+k%4(n=0|a=1);f3(!(l=1))", "x(k>2)", "v2(1=", "z"};

    private SideBySideTest() { }

    public static void main(String[] args) {
        turnByTurn();
        for (int seed = 1; seed <= 200 && DUE.wrong() < 20; seed++) {
            among(seed, 2 + seed % 4);
        }
        DUE.end();
    }

    /** The same calls in turn: what the one has been told, the other has not. */
    private static void turnByTurn() {
        GrownInitials one = new GrownInitials();
        GrownInitials other = new GrownInitials();
        one.feed(0x302C303A, 0x41000000, 0, 0, 0);
        DUE.is("the tape of the other", other.count(6), 0);
        DUE.is("bark(5) of the other", other.bark(5), -1);
        DUE.is("bark(5)", one.bark(5), 1);
        DUE.is("CUTS of the other", other.count(1), 0);
        Due.bark(other, "7,7:BC;9,9:D");
        DUE.is("CUTS", one.count(1), 1);
        DUE.is("TREE", one.cutIs(0, 0), 0);
        DUE.is("TREE of the other", other.cutIs(0, 0), 175);
        Due.law(other, "f50(1=1);x(c=1)");
        DUE.is("RULES", one.count(5), 0);
        DUE.is("home of the other", other.home(0, 9, 7), true);
        DUE.is("HOME", one.cutIs(0, 7), 0);
        DUE.is("seasons", one.seasons(3), 1);
        DUE.is("THE SEASON of the other", other.count(0), 0);
        DUE.is("X of the other", other.count(7), 1);
        DUE.is("seed of the other", other.seed(500), true);
        DUE.is("X", one.count(7), 20196);
        DUE.is("keep", one.keep(), 3);
        DUE.is("undo of the other", other.undo(), false);
        DUE.is("seasons of the other", other.seasons(2), 0);
        DUE.is("keep of the other", other.keep(), 2);
        DUE.is("undo", one.undo(), true);
        DUE.is("THE SEASON as it was KEPT", one.count(0), 3);
        DUE.is("MEMORY", one.cutIs(0, 9), 99);
        DUE.is("ROOTED of the other", other.count(3), 1);
        DUE.is("ROOTED", one.count(3), 0);
    }

    private static void among(int seed, int many) {
        Random turns = new Random(seed);
        List<Player> players = new ArrayList<>();
        List<List<String>> alone = new ArrayList<>();
        for (int i = 0; i < many; i++) {
            alone.add(new Player(1000L * seed + i).playOn(CALLS).answers);
            players.add(new Player(1000L * seed + i));
        }
        for (int left = many * CALLS * 3; left > 0; left--) {
            Player next = players.get(turns.nextInt(many));
            if (next.answers.size() < CALLS) {
                next.step();
            }
        }
        for (int i = 0; i < many; i++) {
            players.get(i).playOn(CALLS);
            areAlike("seed " + seed + ", common " + i, players.get(i).answers, alone.get(i));
        }
    }

    private static void areAlike(String name, List<String> got, List<String> want) {
        int unlike = 0;
        while (unlike < want.size() && got.get(unlike).equals(want.get(unlike))) {
            unlike++;
        }
        String told = unlike == want.size() ? "" : got.get(unlike) + " among others, alone " + want.get(unlike);
        DUE.is(name + ", call " + unlike + ": " + told, unlike, CALLS);
    }

    /** One common and its own row of calls, which no other common has a part in. */
    private static final class Player {
        final GrownInitials g = new GrownInitials();
        final List<String> answers = new ArrayList<>();
        private final Queue<Function<GrownInitials, String>> waiting = new ArrayDeque<>();
        private final Random random;

        Player(long seed) {
            random = new Random(seed);
        }

        Player playOn(int calls) {
            while (answers.size() < calls) {
                step();
            }
            return this;
        }

        /** One call: so others come between a feed and what reads it. */
        void step() {
            if (waiting.isEmpty()) {
                plan();
            }
            answers.add(waiting.remove().apply(g));
        }

        private int below(int n) {
            return random.nextInt(n);
        }

        private void call(Function<GrownInitials, String> call) {
            waiting.add(call);
        }

        private void feed(int... bytes) {
            int[] full = java.util.Arrays.copyOf(bytes, (bytes.length + 19) / 20 * 20);
            for (int i = 0; i < full.length; i += 20) {
                int at = i;
                call(g -> "feed " + g.feed(Due.word(full, at), Due.word(full, at + 4), Due.word(full, at + 8),
                    Due.word(full, at + 12), Due.word(full, at + 16)));
            }
        }

        private void plan() {
            int kind = below(12);
            if (kind == 0 || answers.isEmpty()) {
                String text = BARKS[below(BARKS.length)];
                feed(Due.bytesOf(text));
                call(g -> "bark " + text + " " + g.bark(text.length()));
            } else if (kind == 1) {
                String text = LAWS[below(LAWS.length)];
                feed(Due.bytesOf(text));
                call(g -> "law " + text + " " + g.law(text.length()));
            } else if (kind == 2) {
                puzzle();
            } else if (kind == 3) {
                int c = below(5);
                int x = below(24);
                int y = below(16);
                call(g -> "home " + g.home(c, x, y));
            } else if (kind == 4) {
                int n = 1 + below(4);
                call(g -> "seasons " + g.seasons(n));
            } else if (kind == 5) {
                keeping();
            } else {
                ask();
            }
        }

        private void puzzle() {
            int kind = below(4);
            int what = below(3) == 0 ? 100 : below(2);
            if (kind == 0) {
                feed(0, 255, 1, 2, 255, below(6), 255);
                call(g -> "words " + g.words(7, what & 1));
            } else if (kind == 1) {
                int first = below(2);
                feed(first, 1 - first, 0, 1, 1, 0, 0, 1);
                call(g -> "marriages " + g.marriages(2, what));
            } else if (kind == 2) {
                feed(0, 1, 1, 2, below(3), 3);
                call(g -> "orders " + g.orders(4, 3, what));
            } else {
                feed(99, 99, below(100), 255);
                call(g -> "check " + g.check(4));
            }
        }

        private void keeping() {
            int kind = below(4);
            int x = below(65536);
            if (kind == 0) {
                call(g -> "seed " + g.seed(x));
            } else if (kind == 1) {
                call(g -> "undo " + g.undo());
            } else {
                call(g -> "keep " + g.keep());
            }
        }

        private void ask() {
            int c = below(5);
            int n = 1 + below(12);
            int what = below(13);
            int bit = what & 1;
            call(g -> "count " + g.count(what));
            call(g -> "cutIs " + g.cutIs(c, what));
            switch (below(9)) {
                case 0: call(g -> "tried " + g.tried(n, 20 * (what % 4) + c)); break;
                case 1: call(g -> "meet " + g.meet(c, what % 5, n)); break;
                case 2: call(g -> "roots " + g.roots(c, n)); call(g -> "strays " + g.strays(c, n)); break;
                case 3: call(g -> "nearest " + g.nearest(c, bit)); call(g -> "groups " + g.groups(n, 100)); break;
                case 4: call(g -> "trees " + g.trees()); call(g -> "yard " + g.yard(0, 9, 0, n)); break;
                case 5: call(g -> "fence " + g.fence(bit)); call(g -> "paths " + g.paths()); break;
                case 6: call(g -> "round " + g.round(n, bit)); call(g -> "crossing " + g.crossing()); break;
                case 7: call(g -> "letters " + g.letters()); call(g -> "who " + g.who(c)); break;
                default: call(g -> "single " + g.single(bit)); call(g -> "dates " + g.dates(what % 3));
                    call(g -> "busiest " + g.busiest(bit)); break;
            }
        }
    }
}
