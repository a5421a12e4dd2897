/** Promises 25 to 27: words, marriages and orders. */
public final class TapePuzzlesTest {
    private static final Due DUE = new Due("TapePuzzlesTest");

    public static void main(String[] args) {
        words();
        wordsRefused();
        marriages();
        marriagesRefused();
        orders();
        ordersRefused();
        DUE.end();
    }

    private static GrownInitials lettered() {
        GrownInitials g = Due.common("0,0:A;0,0:AB;0,0:B&C;0,0:P&;0,0:D", "x(c=4)");
        g.seasons(2);
        return g;
    }

    /** Asks for both, behind each other; the words as one text, each with a . behind. */
    private static void spelt(GrownInitials g, String words, int many, int which) {
        int[] bytes = new int[words.length()];
        for (int i = 0; i < bytes.length; i++) {
            bytes[i] = words.charAt(i) == '.' ? 255 : words.charAt(i) - 'A';
        }
        Due.feed(g, bytes);
        DUE.is(words + " how many", g.words(bytes.length, 0), many);
        DUE.is("tape behind " + words, g.count(6), 0);
        Due.feed(g, bytes);
        DUE.is(words + " which", g.words(bytes.length, 1), which);
    }

    private static void words() {
        GrownInitials g = lettered();
        spelt(g, "A.", 1, 1);
        spelt(g, "D.", 0, 0);
        spelt(g, "E.A.", 1, 2);
        spelt(g, "AA.", 1, 1);
        spelt(g, "AAA.", 0, 0);
        spelt(g, "A.A.A.", 2, 3);
        spelt(g, "AABBCP.A.A.", 2, 6);
        spelt(g, "AB.BA.", 2, 3);
        spelt(g, "AB.BB.BA.", 2, 5);
        spelt(g, "AABBCP.", 1, 1);
        spelt(g, "AAB.BC.P.AP.C.", 3, 7);
        spelt(g, "P.C.A.A.B.B.P.C.", 6, 63);
        spelt(g, "C.P.AAAAAAAAA.B.B.B.A.A.", 6, 0b11011011);
        spelt(g, "ABABABABABABABABABABABABABABABABABABABABABABABABABABABABABA.", 0, 0);
        GrownInitials none = Due.common("0,0:A");
        spelt(none, "A.", 0, 0);
    }

    private static void wrongWords(int... bytes) {
        GrownInitials g = lettered();
        Due.feed(g, bytes);
        DUE.is("words of " + java.util.Arrays.toString(bytes), g.words(bytes.length, 0), -2);
        DUE.is("tape", g.count(6), 0);
    }

    private static void wordsRefused() {
        wrongWords(0);
        wrongWords(255);
        wrongWords(0, 255, 255);
        wrongWords(0, 255, 1);
        wrongWords(16, 255);
        wrongWords(254, 255);
        wrongWords(128, 255);
        wrongWords(0, 255, 0, 255, 0, 255, 0, 255, 0, 255, 0, 255, 0, 255, 0, 255, 0, 255);
        wrongWords(0, 255, 0, 255, 0, 255, 0, 255, 0, 255, 0, 255, 0, 255, 0, 255, 0);
        GrownInitials g = lettered();
        DUE.is("words of no tape", g.words(1, 0), -1);
        for (int i = 0; i < 4; i++) {
            g.feed(255, 255, 255, 255, 255);
        }
        DUE.is("words(0, 0)", g.words(0, 0), -1);
        DUE.is("words(-1, 0)", g.words(-1, 0), -1);
        DUE.is("words(61, 0)", g.words(61, 0), -1);
        DUE.is("words(4, 2)", g.words(4, 2), -1);
        DUE.is("words(4, -1)", g.words(4, -1), -1);
        DUE.is("tape stays", g.count(6), 80);
        DUE.is("words(4, 1)", g.words(4, 1), 0);
        g.feed(0, 0, 0, 0, 0);
        DUE.is("words(21, 0)", g.words(21, 0), -1);
        DUE.is("tape stays, too", g.count(6), 20);
    }

    private static void married(int n, int last, int[] gets, int... rows) {
        GrownInitials g = new GrownInitials();
        Due.feed(g, rows);
        DUE.is("marriages of " + n + " that last", g.marriages(n, 100), last);
        DUE.is("tape", g.count(6), 0);
        for (int i = 0; i < n; i++) {
            Due.feed(g, rows);
            DUE.is("marriages of " + n + ", " + i + " gets", g.marriages(n, i), gets[i]);
        }
    }

    private static void marriages() {
        married(2, 2, new int[] {0, 1}, 0, 1, 1, 0, 1, 0, 0, 1);
        married(2, 1, new int[] {1, 0}, 0, 1, 0, 1, 1, 0, 1, 0);
        married(3, 3, new int[] {0, 1, 2},
            0, 1, 2, 1, 2, 0, 2, 0, 1,
            1, 2, 0, 2, 0, 1, 0, 1, 2);
        married(3, 1, new int[] {2, 1, 0},
            0, 1, 2, 0, 1, 2, 0, 1, 2,
            2, 1, 0, 2, 1, 0, 2, 1, 0);
        married(6, 1, new int[] {0, 1, 2, 3, 4, 5},
            0, 1, 2, 3, 4, 5, 0, 1, 2, 3, 4, 5, 0, 1, 2, 3, 4, 5,
            0, 1, 2, 3, 4, 5, 0, 1, 2, 3, 4, 5, 0, 1, 2, 3, 4, 5,
            0, 1, 2, 3, 4, 5, 0, 1, 2, 3, 4, 5, 0, 1, 2, 3, 4, 5,
            0, 1, 2, 3, 4, 5, 0, 1, 2, 3, 4, 5, 0, 1, 2, 3, 4, 5);
        married(4, 10, new int[] {0, 1, 2, 3},
            0, 1, 2, 3, 1, 0, 3, 2, 2, 3, 0, 1, 3, 2, 1, 0,
            3, 2, 1, 0, 2, 3, 0, 1, 1, 0, 3, 2, 0, 1, 2, 3);
    }

    private static void wrongRows(int n, int... rows) {
        GrownInitials g = new GrownInitials();
        Due.feed(g, rows);
        DUE.is("marriages of " + java.util.Arrays.toString(rows), g.marriages(n, 100), -3);
        DUE.is("tape", g.count(6), 0);
    }

    private static void marriagesRefused() {
        wrongRows(2, 0, 0, 1, 0, 1, 0, 0, 1);
        wrongRows(2, 0, 1, 1, 0, 1, 0, 1, 1);
        wrongRows(2, 0, 2, 1, 0, 1, 0, 0, 1);
        wrongRows(2, 0, 1, 1, 0, 1, 0, 0, 255);
        wrongRows(3, 0, 1, 2, 0, 1, 2, 0, 1, 2, 0, 1, 2, 0, 1, 2, 0, 1, 3);
        GrownInitials g = new GrownInitials();
        DUE.is("marriages of no tape", g.marriages(2, 100), -1);
        for (int i = 0; i < 3; i++) {
            g.feed(0, 0, 0, 0, 0);
        }
        DUE.is("marriages(1, 100)", g.marriages(1, 100), -1);
        DUE.is("marriages(0, 100)", g.marriages(0, 100), -1);
        DUE.is("marriages(-2, 100)", g.marriages(-2, 100), -1);
        DUE.is("marriages(7, 100)", g.marriages(7, 100), -1);
        DUE.is("marriages(65536, 100)", g.marriages(65536, 100), -1);
        DUE.is("marriages(2, 2)", g.marriages(2, 2), -1);
        DUE.is("marriages(2, -1)", g.marriages(2, -1), -1);
        DUE.is("marriages(2, 101)", g.marriages(2, 101), -1);
        DUE.is("marriages(6, 100) of 60 bytes", g.marriages(6, 100), -1);
        DUE.is("tape stays", g.count(6), 60);
        DUE.is("marriages(5, 100) of 60 bytes", g.marriages(5, 100), -3);
        for (int i = 0; i < 13; i++) {
            g.feed(0, 0, 0, 0, 0);
        }
        DUE.is("marriages(7, 100) of 260 bytes", g.marriages(7, 100), -1);
        DUE.is("orders(11, 1, 100) of 260 bytes", g.orders(11, 1, 100), -1);
        DUE.is("words(61, 0) of 260 bytes", g.words(61, 0), -1);
    }

    private static void ordered(int n, int what, int due, int... twos) {
        GrownInitials g = new GrownInitials();
        Due.feed(g, twos);
        String call = "orders(" + n + ", " + twos.length / 2 + ", " + what + ")";
        DUE.is(call, g.orders(n, twos.length / 2, what), due);
        DUE.is("tape behind " + call, g.count(6), 0);
    }

    private static void orders() {
        ordered(2, 100, 1, 0, 1);
        ordered(2, 100, 1, 0, 1, 0, 1, 0, 1);
        ordered(2, 0, 1, 1, 0, 1, 0);
        ordered(2, 1, 0, 1, 0);
        ordered(2, 0, 1, 1, 0);
        ordered(10, 100, 1814400, 9, 0);
        ordered(10, 100, 1, 9, 8, 8, 7, 7, 6, 6, 5, 5, 4, 4, 3, 3, 2, 2, 1, 1, 0);
        ordered(10, 0, 9, 9, 8, 8, 7, 7, 6, 6, 5, 5, 4, 4, 3, 3, 2, 2, 1, 1, 0);
        ordered(10, 4, 5, 9, 8, 8, 7, 7, 6, 6, 5, 5, 4, 4, 3, 3, 2, 2, 1, 1, 0);
        ordered(4, 100, 5, 0, 1, 2, 3, 0, 3);
        ordered(4, 3, 2, 0, 1, 2, 3, 0, 3);
        ordered(4, 1, 1, 0, 1, 2, 3, 0, 3);
        ordered(4, 2, 0, 0, 1, 2, 3, 0, 3);
        ordered(5, 4, 0, 0, 1, 1, 2);
        ordered(3, 100, 0, 0, 1, 1, 2, 2, 0);
        ordered(3, 0, -2, 0, 1, 1, 2, 2, 0);
        ordered(5, 4, -2, 0, 1, 1, 2, 2, 0);
        ordered(3, 100, 1, 0, 1, 1, 2, 0, 2, 0, 1, 1, 2, 0, 2, 0, 1, 1, 2, 0, 2, 0, 1, 1, 2, 0, 2, 0, 1, 1, 2, 0, 2,
            0, 1, 1, 2, 0, 2, 0, 1, 1, 2);
    }

    private static void ordersRefused() {
        ordered(2, 100, -3, 0, 0);
        ordered(2, 100, -3, 0, 2);
        ordered(2, 0, -3, 2, 0);
        ordered(10, 100, -3, 0, 10);
        ordered(10, 100, -3, 0, 1, 255, 1);
        GrownInitials g = new GrownInitials();
        DUE.is("orders of no tape", g.orders(2, 1, 100), -1);
        g.feed(0, 0, 0, 0, 0);
        DUE.is("orders(1, 1, 100)", g.orders(1, 1, 100), -1);
        DUE.is("orders(11, 1, 100)", g.orders(11, 1, 100), -1);
        DUE.is("orders(-1, 1, 100)", g.orders(-1, 1, 100), -1);
        DUE.is("orders(2, 0, 100)", g.orders(2, 0, 100), -1);
        DUE.is("orders(2, -1, 100)", g.orders(2, -1, 100), -1);
        DUE.is("orders(2, 11, 100)", g.orders(2, 11, 100), -1);
        DUE.is("orders(2, 1, 2)", g.orders(2, 1, 2), -1);
        DUE.is("orders(2, 1, -1)", g.orders(2, 1, -1), -1);
        DUE.is("orders(2, 1, 99)", g.orders(2, 1, 99), -1);
        g.feed(0, 0, 0, 0, 0);
        g.feed(0, 0, 0, 0, 0);
        DUE.is("orders(2, 21, 100)", g.orders(2, 21, 100), -1);
        DUE.is("orders(2, max, 100)", g.orders(2, Integer.MAX_VALUE, 100), -1);
        DUE.is("tape stays", g.count(6), 60);
        DUE.is("orders(2, 20, 100)", g.orders(2, 20, 100), -3);
    }
}
