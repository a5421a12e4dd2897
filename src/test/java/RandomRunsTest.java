import java.util.Random;

/** Random runs of calls, held against PlainCommon: right arguments mostly, wrong ones at times. */
public final class RandomRunsTest {
    private static final Due DUE = new Due("RandomRunsTest");
    private final Random random;
    private final GrownInitials g = new GrownInitials();
    private final PlainCommon p = new PlainCommon();

    private RandomRunsTest(long seed) {
        random = new Random(seed);
    }

    public static void main(String[] args) {
        int runs = args.length > 0 ? Integer.parseInt(args[0]) : 400;
        for (int seed = 1; seed <= runs && DUE.wrong() < 20; seed++) {
            new RandomRunsTest(seed).run("run " + seed + ": ");
        }
        DUE.end();
    }

    private void run(String name) {
        for (int i = 0; i < 300 && DUE.wrong() < 20; i++) {
            call(name + i + " ");
        }
    }

    private int below(int n) {
        return random.nextInt(n);
    }

    /** From low to high mostly; else beside them, or anything. */
    private int about(int low, int high) {
        int kind = below(40);
        if (kind == 0) {
            return low - 1;
        }
        if (kind == 1) {
            return high + 1;
        }
        return kind == 2 ? random.nextInt() : low + below(high - low + 1);
    }

    private int aCut() {
        return about(0, Math.max(0, g.count(1) - 1));
    }

    private int span() {
        return below(3) == 0 ? about(1, 100) : about(1, 12);
    }

    private void feed(int... bytes) {
        int[] full = new int[(bytes.length + 19) / 20 * 20];
        System.arraycopy(bytes, 0, full, 0, bytes.length);
        for (int i = 0; i < full.length; i += 20) {
            int[] w = new int[5];
            for (int k = 0; k < 5; k++) {
                w[k] = Due.word(full, i + 4 * k);
            }
            DUE.is("feed", g.feed(w[0], w[1], w[2], w[3], w[4]), p.feed(w));
        }
    }

    /** Empties the tape of both. */
    private void clear() {
        DUE.is("check(0)", g.check(0), p.check(0));
    }

    private String bark() {
        StringBuilder s = new StringBuilder();
        int many = 1 + below(below(4) == 0 ? 17 : 8);
        int reach = below(3) == 0 ? 24 : 4 + below(6);
        for (int i = 0; i < many; i++) {
            s.append(i == 0 ? "" : ";").append(below(reach)).append(',').append(below(Math.min(16, reach))).append(':');
            s.append(below(3) == 0 ? "x" : "");
            boolean heart = below(3) == 0;
            int first = below(16);
            s.append(heart ? "[" : "").append((char) ('A' + first)).append(below(3) == 0 ? "&" : "");
            s.append(below(2) == 0 ? "" : String.valueOf((char) ('A' + (first + 1 + below(15)) % 16)));
            s.append(heart ? "]" : "").append(below(3) == 0 ? "" + below(10) + below(10) : "");
            s.append(below(3) == 0 ? ">" : "");
        }
        return spoilt(s, "0123456789,:;x[]&>ABPQ ");
    }

    private String spoilt(StringBuilder s, String signs) {
        if (below(3) == 0) {
            int times = 1 + below(2);
            for (int i = 0; i < times && s.length() > 0; i++) {
                int at = below(s.length());
                char sign = signs.charAt(below(signs.length()));
                int kind = below(4);
                if (kind == 0) {
                    s.deleteCharAt(at);
                } else if (kind == 1) {
                    s.insert(at, sign);
                } else if (kind == 2) {
                    s.setCharAt(at, sign);
                } else {
                    s.setLength(at + 1);
                }
            }
        }
        return s.toString();
    }

    private String law() {
        StringBuilder s = new StringBuilder();
        int many = 1 + below(below(6) == 0 ? 17 : 5);
        for (int i = 0; i < many; i++) {
            s.append(i == 0 ? "" : ";");
            int kind = below(7);
            s.append(kind < 3 ? "v" : kind < 6 ? "f" : "x");
            if (kind < 6) {
                sum(s, 0);
            }
            s.append('(');
            condition(s, 1);
            s.append(')');
        }
        return spoilt(s, "0123456789;vfx()[]!&|<>=+-*/%csmhlakdntw ");
    }

    private void condition(StringBuilder s, int open) {
        int many = 1 + (below(3) == 0 ? 1 + below(2) : 0);
        for (int i = 0; i < many; i++) {
            s.append(i == 0 ? "" : below(2) == 0 ? "&" : "|");
            int kind = below(9 + 3 * open);
            if (kind == 0) {
                s.append('!');
                test(s, open + 1);
            } else if (kind == 1) {
                s.append('(');
                condition(s, open + 1);
                s.append(')');
            } else {
                test(s, open);
            }
        }
    }

    private void test(StringBuilder s, int open) {
        sum(s, open);
        s.append("<>=".charAt(below(3)));
        sum(s, open);
    }

    private void sum(StringBuilder s, int open) {
        int many = 1 + (below(3) == 0 ? 1 + below(3) : 0);
        for (int i = 0; i < many; i++) {
            s.append(i == 0 ? "" : String.valueOf("+-*/%".charAt(below(5))));
            int kind = below(8 + 4 * open);
            if (kind == 0) {
                s.append('[');
                sum(s, open + 1);
                s.append(']');
            } else if (kind % 2 == 0) {
                s.append(below(8) == 0 ? below(99999) : below(below(2) == 0 ? 5 : 60));
            } else {
                s.append("csmhlakdntw".charAt(below(11)));
            }
        }
    }

    private void text(String name, String text, boolean isBark) {
        clear();
        feed(Due.bytesOf(text.length() > 260 ? text.substring(0, 260) : text));
        int n = below(30) == 0 ? about(1, 200) : text.length();
        if (isBark) {
            DUE.is(name + "bark " + text + " " + n, g.bark(n), p.bark(n));
        } else {
            DUE.is(name + "law " + text + " " + n, g.law(n), p.law(n));
        }
    }

    private void call(String name) {
        int kind = below(40);
        if (kind < 3) {
            text(name, bark(), true);
        } else if (kind < 7) {
            text(name, law(), false);
        } else if (kind < 12) {
            int c = aCut();
            int reach = below(2) == 0 ? 23 : 6;
            int hx = about(0, reach);
            int hy = about(0, Math.min(reach, 15));
            DUE.is(name + "home", g.home(c, hx, hy), p.home(c, hx, hy));
        } else if (kind < 15) {
            int n = about(1, 5);
            DUE.is(name + "seasons " + n, g.seasons(n), p.seasons(n));
        } else if (kind < 20) {
            tries(name);
        } else if (kind < 28) {
            places(name);
        } else if (kind < 31) {
            puzzles(name);
        } else if (kind < 34) {
            keeping(name);
        } else {
            all(name);
        }
    }

    private void tries(String name) {
        int n = span();
        int what = below(4) == 0 ? about(0, 2) : 20 * (1 + below(3)) + aCut();
        DUE.is(name + "tried " + n + " " + what, g.tried(n, what), p.tried(n, what));
        int c = aCut();
        int d = aCut();
        DUE.is(name + "meet " + c + " " + d + " " + n, g.meet(c, d, n), p.meet(c, d, n));
        DUE.is(name + "roots " + c + " " + n, g.roots(c, n), p.roots(c, n));
        DUE.is(name + "strays " + c + " " + n, g.strays(c, n), p.strays(c, n));
    }

    private void places(String name) {
        int c = aCut();
        int what = about(0, 1);
        DUE.is(name + "nearest " + c, g.nearest(c, what), p.nearest(c, what));
        DUE.is(name + "busiest", g.busiest(what), p.busiest(what));
        DUE.is(name + "fence " + what, g.fence(what), p.fence(what));
        DUE.is(name + "crossing", g.crossing(), p.crossing());
        DUE.is(name + "paths", g.paths(), p.paths());
        DUE.is(name + "trees", g.trees(), p.trees());
        int left = about(0, 12);
        int right = about(Math.max(0, Math.min(left, 23)), 23);
        int top = about(0, 8);
        int bottom = about(Math.max(0, Math.min(top, 15)), 15);
        DUE.is(name + "yard", g.yard(left, right, top, bottom), p.yard(left, right, top, bottom));
        int steps = below(2) == 0 ? about(0, 38) : about(0, 6);
        int group = below(2) == 0 ? 100 : aCut();
        DUE.is(name + "groups " + steps + " " + group, g.groups(steps, group), p.groups(steps, group));
        int bits = about(1, Math.max(1, (1 << g.count(1)) - 1));
        if (Integer.bitCount(bits) > 7 && Integer.bitCount(bits) < 10 && below(10) > 0) {
            bits &= 0x333;
        }
        DUE.is(name + "round " + bits, g.round(bits, what), p.round(bits, what));
        int letter = about(0, 15);
        DUE.is(name + "who", g.who(letter), p.who(letter));
        DUE.is(name + "single", g.single(what), p.single(what));
        int date = about(0, 2);
        DUE.is(name + "dates", g.dates(date), p.dates(date));
    }

    private void puzzles(String name) {
        clear();
        int kind = below(3);
        if (kind == 0) {
            int many = 1 + below(9);
            StringBuilder s = new StringBuilder();
            for (int i = 0; i < many; i++) {
                int length = 1 + below(below(2) == 0 ? 2 : 5);
                for (int k = 0; k < length; k++) {
                    s.append((char) below(below(20) == 0 ? 18 : 16));
                }
                s.append((char) 255);
            }
            s.setLength(Math.max(1, Math.min(60, s.length() - (below(9) == 0 ? 1 : 0))));
            feed(Due.bytesOf(s.toString()));
            int what = about(0, 1);
            DUE.is(name + "words", g.words(s.length(), what), p.words(s.length(), what));
        } else if (kind == 1) {
            int n = 2 + below(5);
            int[] rows = new int[2 * n * n];
            for (int i = 0; i < 2 * n; i++) {
                for (int k = 0; k < n; k++) {
                    int to = below(k + 1);
                    rows[n * i + k] = rows[n * i + to];
                    rows[n * i + to] = k;
                }
            }
            if (below(8) == 0) {
                rows[below(rows.length)] = below(n + 1);
            }
            feed(rows);
            int asked = below(20) == 0 ? about(2, 6) : n;
            int what = below(2) == 0 ? 100 : about(0, n - 1);
            DUE.is(name + "marriages " + asked + " " + what, g.marriages(asked, what), p.marriages(asked, what));
        } else {
            int n = 2 + below(below(9) == 0 ? 9 : 6);
            int m = 1 + below(below(2) == 0 ? 4 : 20);
            int[] twos = new int[2 * m];
            boolean isSorted = below(3) > 0;
            for (int i = 0; i < m; i++) {
                int a = below(n);
                int b = (a + 1 + below(n - 1)) % n;
                twos[2 * i] = isSorted ? Math.min(a, b) : a;
                twos[2 * i + 1] = isSorted ? Math.max(a, b) : b;
            }
            if (below(12) == 0) {
                twos[below(2 * m)] = below(n + 1);
            }
            feed(twos);
            int what = below(2) == 0 ? 100 : about(0, n - 1);
            int many = below(20) == 0 ? about(1, 20) : m;
            DUE.is(name + "orders " + n + " " + many + " " + what, g.orders(n, many, what), p.orders(n, many, what));
        }
    }

    private void keeping(String name) {
        int kind = below(5);
        if (kind == 0) {
            DUE.is(name + "keep", g.keep(), p.keep());
        } else if (kind == 1) {
            DUE.is(name + "undo", g.undo(), p.undo());
        } else if (kind == 2) {
            int s = about(0, 65535);
            DUE.is(name + "seed", g.seed(s), p.seed(s));
        } else {
            clear();
            int[] bytes = new int[16];
            for (int c = 0; c < 16; c++) {
                bytes[c] = c < g.count(1) ? g.cutIs(c, 9) : 255;
            }
            bytes[below(16)] += below(2);
            feed(bytes);
            int n = about(0, 16);
            DUE.is(name + "check " + n, g.check(n), p.check(n));
        }
    }

    private void all(String name) {
        for (int what = -1; what <= 8; what++) {
            DUE.is(name + "count " + what, g.count(what), p.count(what));
        }
        for (int c = -1; c <= g.count(1); c++) {
            for (int what = -1; what <= 13; what++) {
                DUE.is(name + "cutIs " + c + " " + what, g.cutIs(c, what), p.cutIs(c, what));
            }
        }
        DUE.is(name + "letters", g.letters(), p.letters());
    }
}
