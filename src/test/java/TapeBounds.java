/** Bounds of promises 3, 25 to 27 and 31: the tape, words, marriages, orders and checks. */
final class TapeBounds {
    private static final int END = 255;

    private final Bounds b;

    TapeBounds(Bounds b) {
        this.b = b;
    }

    void ask() {
        feed();
        words();
        wordsThatAreNone();
        wordsRefused();
        marriages();
        marriagesRefused();
        orders();
        ordersRefused();
        check();
        checkRefused();
    }

    private static int[] filled(int length, int with, int... last) {
        int[] bytes = new int[length];
        java.util.Arrays.fill(bytes, with);
        System.arraycopy(last, 0, bytes, length - last.length, last.length);
        return bytes;
    }

    private void feed() {
        b.promise(3);
        b.sentence("Twenty bytes come behind the tape, the highest of each int first: how many it has; NONE if that "
            + "would be more than 260.");
        GrownInitials g = new GrownInitials();
        for (int i = 1; i <= 13; i++) {
            b.is("feed " + i, g.feed(0, 0, 0, 0, 0), 20 * i);
        }
        b.is("more than 260", g.feed(0, 0, 0, 0, 0), -1);
        b.is("and once more", g.feed(-1, -1, -1, -1, -1), -1);
        b.is("260", g.count(6), 260);
        b.leavesAll(13, "feed to more than 260", h -> h.feed(1, 2, 3, 4, 5), -1);
        g = new GrownInitials();
        g.feed(0x302C303A, 0x5B412642, 0x5D30303E, 0x3B312C31, 0x3A427878);
        b.is("the highest of each int first", g.bark(18), 2);
        b.is("the first CUT's second letter", g.cutIs(0, 2), 1);
        b.is("the second CUT", g.cutIs(1, 0), 25);
        g.feed(0x302C303A, 0x413B312C, 0x313A423B, 0x322C323A, 0x433B332C);
        b.is("behind the tape", g.feed(0x333A4478, 0, 0, 0, 0), 40);
        b.is("two feeds are one text", g.bark(23), 4);
        b.is("the last CUT's letter", g.cutIs(3, 1), 3);
        g = Due.common("0,0:A;".repeat(15) + "0,0:B", "f[c+1]*6(1=1)");
        g.home(0, 9, 9);
        g.seasons(1);
        g.feed(0x5D57514B, 0x453F3933, 0x2D27211B, 0x150F0903, 0xFFFFFFFF);
        b.is("all sixteen of four ints", g.check(16), -1);
        g.feed(0x00FF01FF, 0x80FF7F01, 0, 0, 0);
        b.is("a byte is 0 to 255: 128 is no letter", g.words(6, 0), -2);
        g = new GrownInitials();
        g.feed(0xFFFFFFFF, 0, 0, 0, 0);
        b.is("a byte is 0 to 255: 255 is not -1", g.check(4), -1);
    }

    /** Six letters on cuts that are about: A twice, B twice, C and P; D is felled, E rooted, F new. */
    private static GrownInitials lettered() {
        GrownInitials g = Due.common("0,0:A;0,0:AB;0,0:B&C;0,0:P&;0,0:D;0,0:E", "x(c=4);f99(c=5)");
        g.seasons(2);
        return g;
    }

    private static int[] spelt(String words) {
        int[] bytes = new int[words.length()];
        for (int i = 0; i < bytes.length; i++) {
            bytes[i] = words.charAt(i) == '.' ? END : words.charAt(i) - 'A';
        }
        return bytes;
    }

    private void spell(String words, int many, int which) {
        int[] bytes = spelt(words);
        GrownInitials g = lettered();
        Due.feed(g, bytes);
        b.is(words + " how many", g.words(bytes.length, 0), many);
        b.is("the tape is empty behind " + words, g.count(6), 0);
        Due.feed(g, bytes);
        b.is(words + " which", g.words(bytes.length, 1), which);
        b.is("the tape is empty again behind " + words, g.count(6), 0);
    }

    private void words() {
        b.part("Terms");
        b.sentence("WORDS: 1 to 8 words (of letters A to P as bytes 0 to 15, each word ends with 255; 60 bytes at most): "
            + "the most that can be spelt at once from LETTERS of CUTS that are ABOUT (each letter as often as it is on "
            + "CUTS); which (least bits).");
        spell("A.", 1, 1);
        spell("P.", 1, 1);
        spell("AA.", 1, 1);
        spell("AAA.", 0, 0);
        spell("A.A.", 2, 3);
        spell("A.A.A.", 2, 3);
        spell("AAA.A.A.", 2, 6);
        spell("AABBCP.", 1, 1);
        spell("AABBCPP.", 0, 0);
        spell("AABBCP.C.P.", 2, 6);
        spell("D.E.F.", 0, 0);
        spell("A.A.B.B.C.P.D.E.", 6, 0b00111111);
        spell("D.E.A.A.B.B.C.P.", 6, 0b11111100);
        spell("AB.AB.AB.AB.AB.AB.AB.AB.", 2, 3);
        spell("AB.BB.BA.", 2, 5);
        spell("CP.C.P.", 2, 6);
        spell("C.CP.P.", 2, 5);
        spell("A".repeat(59) + ".", 0, 0);
        spell("A." + "A".repeat(57) + ".", 1, 1);
        GrownInitials g = Due.common("0,0:A");
        Due.feed(g, 0, END);
        b.is("none that is ABOUT", g.words(2, 0), 0);
        g = new GrownInitials();
        Due.feed(g, 0, END);
        b.is("of no CUTS", g.words(2, 1), 0);
        g = Due.common("0,0:A;".repeat(15) + "0,0:A");
        g.seasons(2);
        Due.feed(g, spelt("A".repeat(16) + "."));
        b.is("a letter sixteen times", g.words(17, 0), 1);
        Due.feed(g, spelt("A".repeat(17) + "."));
        b.is("a letter seventeen times", g.words(18, 0), 0);
    }

    private void noWords(int... bytes) {
        String call = "words of " + java.util.Arrays.toString(bytes);
        b.emptiesTape(bytes, call, g -> g.words(bytes.length, 0), -2);
        b.emptiesTape(bytes, call + " which", g -> g.words(bytes.length, 1), -2);
    }

    private void wordsThatAreNone() {
        b.promise(25);
        b.sentence("-2: more than 8, a byte that is no letter, an end that is not 255, one of no letter;");
        int[] eight = spelt("A.A.A.A.A.A.A.A.");
        b.emptiesTape(eight, "eight words", g -> g.words(16, 0), Math.min(8, aboutLetters()));
        noWords(spelt("A.A.A.A.A.A.A.A.A."));
        noWords(spelt("A.A.A.A.A.A.A.A.A"));
        noWords(spelt("A.A.A.A.A.A.A.A.."));
        int[] letters = new int[17];
        for (int i = 0; i < 16; i++) {
            letters[i] = i;
        }
        letters[16] = END;
        b.emptiesTape(letters, "all sixteen letters", g -> g.words(17, 0), 0);
        noWords(16, END);
        noWords(0, 16, END);
        noWords(65, END);
        noWords(254, END);
        noWords(128, END);
        noWords(0, END, 16, END);
        noWords(0);
        noWords(0, END, 0);
        noWords(filled(60, 0));
        noWords(filled(60, 0, END, 0));
        noWords(END);
        noWords(END, END);
        noWords(END, 0, END);
        noWords(0, END, END);
        noWords(0, END, END, 0, END);
    }

    /** How often an A is on cuts that are about in the common that is looked at. */
    private static int aboutLetters() {
        GrownInitials g = Look.grown(0);
        return Integer.bitCount(g.who(0) & g.count(2));
    }

    private void wordsRefused() {
        b.promise(25);
        b.sentence("WORDS by the first n bytes of the tape (1 to 60; empty then), what 0 how many, 1 which (bits);");
        GrownInitials g = lettered();
        Due.feed(g, filled(80, 0, END));
        b.is("60 of 80 bytes: no end", g.words(60, 0), -2);
        b.is("the tape is empty", g.count(6), 0);
        int[] sixty = filled(80, 77);
        System.arraycopy(filled(60, 0, END, 0, END), 0, sixty, 0, 60);
        Due.feed(g, sixty);
        b.is("60 of 80 bytes", g.words(60, 1), 2);
        Due.feed(g, 0, END, 77);
        b.is("what is behind them does not matter", g.words(2, 0), 1);
        Due.feed(g, 0);
        b.is("one byte", g.words(1, 0), -2);
        Due.feed(g, spelt("AABBCPPPP."));
        b.is("too many of a letter", g.words(10, 0), 0);
        Due.feed(g, spelt("AABBCP."));
        b.is("nothing is left of the words before", g.words(7, 1), 1);
        b.sentence("NONE: no such ones, it has not so many (the tape stays).");
        for (int n : new int[] {0, -1, 61, 260, Integer.MIN_VALUE, Integer.MAX_VALUE}) {
            b.leavesAll(13, "words(" + n + ", 0)", h -> h.words(n, 0), -1);
        }
        for (int what : new int[] {-1, 2, 100, Integer.MIN_VALUE, Integer.MAX_VALUE}) {
            b.leavesAll(13, "words(1, " + what + ")", h -> h.words(1, what), -1);
        }
        b.leavesAll(0, "words(1, 0) of an empty tape", h -> h.words(1, 0), -1);
        b.leavesAll(0, "words(0, 0) of an empty tape", h -> h.words(0, 0), -1);
        b.leavesAll(1, "words(21, 0) of 20 bytes", h -> h.words(21, 0), -1);
        b.leavesAll(2, "words(41, 1) of 40 bytes", h -> h.words(41, 1), -1);
        b.leavesAll(2, "words(60, 1) of 40 bytes", h -> h.words(60, 1), -1);
        b.leavesAll(3, "words(61, 1) of 60 bytes", h -> h.words(61, 1), -1);
    }

    /** All of one side rank alike, the lowest first. */
    private static int[] alike(int n) {
        int[] rows = new int[2 * n * n];
        for (int i = 0; i < rows.length; i++) {
            rows[i] = i % n;
        }
        return rows;
    }

    private void marriages() {
        b.part("Terms");
        b.sentence("MARRIAGES: 2 to 6 of each side, each ranks the others (the best first): the one by which the first "
            + "side asks: whom one of it gets; how many there are that last (no two would rather have each other);");
        for (int n = 2; n <= 6; n++) {
            int size = n;
            b.emptiesTape(alike(n), n + " of each side, all alike", g -> g.marriages(size, 100), 1);
            for (int one = 0; one < n; one++) {
                int asks = one;
                b.emptiesTape(alike(n), n + " of each side, " + one + " asks", g -> g.marriages(size, asks), one);
            }
        }
        int[] two = {0, 1, 1, 0, 1, 0, 0, 1};
        b.emptiesTape(two, "both last", g -> g.marriages(2, 100), 2);
        b.emptiesTape(two, "the first side has its best", g -> g.marriages(2, 0), 0);
        b.emptiesTape(two, "the first side has its best, too", g -> g.marriages(2, 1), 1);
        int[] other = {0, 1, 0, 1, 1, 0, 1, 0};
        b.emptiesTape(other, "one lasts", g -> g.marriages(2, 100), 1);
        b.emptiesTape(other, "the first asks in vain", g -> g.marriages(2, 0), 1);
        b.emptiesTape(other, "the second one gets the best", g -> g.marriages(2, 1), 0);
        int[] four = {0, 1, 2, 3, 1, 0, 3, 2, 2, 3, 0, 1, 3, 2, 1, 0, 3, 2, 1, 0, 2, 3, 0, 1, 1, 0, 3, 2, 0, 1, 2, 3};
        b.emptiesTape(four, "as many as can last of four", g -> g.marriages(4, 100), 10);
    }

    private void noMarriages(int n, int... rows) {
        String call = "marriages of " + n + " by " + java.util.Arrays.toString(rows);
        b.emptiesTape(rows, call, g -> g.marriages(n, 100), -3);
        b.emptiesTape(rows, call + ", whom 0 gets", g -> g.marriages(n, 0), -3);
    }

    private void marriagesRefused() {
        b.promise(26);
        b.sentence("MARRIAGES of n (2 to 6) by the first 2 n n bytes of the tape (rows of the first side, then of the "
            + "second one; empty then), what 100 how many last, else whom what of the first side gets if it asks;");
        for (int n : new int[] {1, 0, -1, -2, -6, 7, 8, 32768, 65536, Integer.MIN_VALUE, Integer.MAX_VALUE}) {
            b.leavesAll(13, "marriages(" + n + ", 100)", g -> g.marriages(n, 100), -1);
            b.leavesAll(13, "marriages(" + n + ", 0)", g -> g.marriages(n, 0), -1);
        }
        int[] five = alike(6);
        b.is("seventy-two bytes of eighty", five.length, 72);
        b.emptiesTape(five, "marriages(6, 5)", g -> g.marriages(6, 5), 5);
        rowsBefore();
        b.sentence("-3: a row that does not name each just once;");
        for (int n : new int[] {2, 6}) {
            for (int at = 0; at < 2 * n * n; at++) {
                int[] twice = alike(n);
                twice[at] = (twice[at] + 1) % n;
                noMarriages(n, twice);
                int[] beyond = alike(n);
                beyond[at] = n;
                noMarriages(n, beyond);
            }
        }
        noMarriages(2, 0, 1, 0, 1, 0, 1, 0, END);
        noMarriages(2, 128, 1, 0, 1, 0, 1, 0, 1);
        b.sentence("NONE: no such ones, it has not so many (the tape stays).");
        for (int what : new int[] {-1, 2, 3, 6, 99, 101, Integer.MIN_VALUE, Integer.MAX_VALUE}) {
            b.leavesAll(13, "marriages(2, " + what + ")", g -> g.marriages(2, what), -1);
        }
        b.leavesAll(13, "marriages(6, 6)", g -> g.marriages(6, 6), -1);
        b.leavesAll(0, "marriages(2, 100) of an empty tape", g -> g.marriages(2, 100), -1);
        b.leavesAll(1, "marriages(4, 100) of 20 bytes", g -> g.marriages(4, 100), -1);
        b.leavesAll(2, "marriages(5, 100) of 40 bytes", g -> g.marriages(5, 100), -1);
        b.leavesAll(3, "marriages(6, 100) of 60 bytes", g -> g.marriages(6, 100), -1);
    }

    /** Nothing may be left of the rows before: the same again, between others. */
    private void rowsBefore() {
        GrownInitials g = new GrownInitials();
        int[] turned = {2, 1, 0, 2, 1, 0, 2, 1, 0, 2, 1, 0, 2, 1, 0, 2, 1, 0};
        for (int go = 0; go < 2; go++) {
            for (int one = 0; one < 3; one++) {
                Due.feed(g, turned);
                b.is("turned, whom " + one + " gets", g.marriages(3, one), one);
                Due.feed(g, alike(6));
                b.is("alike, whom " + (5 - one) + " gets", g.marriages(6, 5 - one), 5 - one);
                Due.feed(g, 1, 0, 1, 0, 1, 0, 1, 0);
                b.is("two, whom the first gets", g.marriages(2, 0), 0);
                Due.feed(g, 1, 0, 0, 1, 0, 1, 1, 0);
                b.is("two others, whom the first gets", g.marriages(2, 0), 1);
                Due.feed(g, 1, 0, 0, 1, 0, 1, 1, 0);
                b.is("two others, how many last", g.marriages(2, 100), 2);
            }
        }
    }

    private void orders() {
        b.part("Terms");
        b.sentence("ORDERS: 2 to 10 cuts, 1 to 20 twos of which the one was cut ahead of the other: in how many orders "
            + "all can have been cut; the earliest place one can have (0 on).");
        ordered(2, 100, 1, 0, 1);
        ordered(2, 0, 0, 0, 1);
        ordered(2, 1, 1, 0, 1);
        ordered(10, 100, 1814400, 9, 0);
        ordered(10, 0, 1, 9, 0);
        ordered(10, 9, 0, 9, 0);
        ordered(10, 5, 0, 9, 0);
        int[] row = {9, 8, 8, 7, 7, 6, 6, 5, 5, 4, 4, 3, 3, 2, 2, 1, 1, 0};
        ordered(10, 100, 1, row);
        for (int cut = 0; cut < 10; cut++) {
            ordered(10, cut, 9 - cut, row);
        }
        int[] twenty = new int[40];
        for (int i = 0; i < 20; i++) {
            twenty[2 * i] = i % 9;
            twenty[2 * i + 1] = 9;
        }
        ordered(10, 100, 362880, twenty);
        ordered(10, 9, 9, twenty);
        ordered(2, 100, 1, 0, 1, 0, 1);
        ordered(2, 100, 0, 0, 1, 1, 0);
        ordered(10, 100, 0, 0, 1, 1, 2, 2, 0);
    }

    private void ordered(int n, int what, int due, int... twos) {
        String call = "orders(" + n + ", " + twos.length / 2 + ", " + what + ") by " + java.util.Arrays.toString(twos);
        b.emptiesTape(twos, call, g -> g.orders(n, twos.length / 2, what), due);
    }

    private void ordersRefused() {
        b.promise(27);
        b.sentence("ORDERS of n cuts (2 to 10) by the first 2 m bytes of the tape (ahead, behind; m 1 to 20; empty then), "
            + "what 100 in how many, else the earliest place of cut what (none: -2);");
        ordered(2, 0, -2, 0, 1, 1, 0);
        ordered(2, 1, -2, 0, 1, 1, 0);
        ordered(10, 9, -2, 0, 1, 1, 2, 2, 0);
        int[] forty = filled(60, 99);
        for (int i = 0; i < 40; i++) {
            forty[i] = i % 2;
        }
        b.emptiesTape(forty, "orders(3, 20, 100), what is behind does not matter", g -> g.orders(3, 20, 100), 3);
        for (int n : new int[] {1, 0, -1, 11, 32, Integer.MIN_VALUE, Integer.MAX_VALUE}) {
            b.leavesAll(13, "orders(" + n + ", 1, 100)", g -> g.orders(n, 1, 100), -1);
            b.leavesAll(13, "orders(" + n + ", 1, 0)", g -> g.orders(n, 1, 0), -1);
        }
        for (int m : new int[] {0, -1, 21, 130, Integer.MIN_VALUE, Integer.MAX_VALUE, 1 << 30}) {
            b.leavesAll(13, "orders(2, " + m + ", 100)", g -> g.orders(2, m, 100), -1);
        }
        twosBefore();
        b.sentence("-3: one that is not, ahead of itself;");
        ordered(2, 100, 1, 1, 0);
        ordered(2, 100, -3, 2, 0);
        ordered(2, 100, -3, 0, 2);
        ordered(2, 0, -3, 0, 2);
        ordered(10, 100, 1814400, 9, 8);
        ordered(10, 100, -3, 10, 8);
        ordered(10, 100, -3, 9, 10);
        ordered(10, 100, -3, 0, 1, 1, 2, 0, END);
        ordered(10, 100, -3, 128, 1);
        ordered(2, 100, -3, 0, 0);
        ordered(10, 9, -3, 0, 1, 9, 9);
        b.emptiesTape(filled(40, 0, 1, 1), "the twentieth", g -> g.orders(2, 20, 100), -3);
        b.sentence("NONE: no such ones, it has not so many (the tape stays).");
        for (int what : new int[] {-1, 2, 10, 99, 101, Integer.MIN_VALUE, Integer.MAX_VALUE}) {
            b.leavesAll(13, "orders(2, 1, " + what + ")", g -> g.orders(2, 1, what), -1);
        }
        b.leavesAll(13, "orders(10, 1, 10)", g -> g.orders(10, 1, 10), -1);
        b.leavesAll(0, "orders(2, 1, 100) of an empty tape", g -> g.orders(2, 1, 100), -1);
        b.leavesAll(1, "orders(2, 11, 100) of 20 bytes", g -> g.orders(2, 11, 100), -1);
        b.leavesAll(1, "orders(2, 20, 100) of 20 bytes", g -> g.orders(2, 20, 100), -1);
        b.leavesAll(2, "orders(2, 21, 100) of 40 bytes", g -> g.orders(2, 21, 100), -1);
        b.emptiesTape(filled(20, 0), "orders(2, 10, 100) of 20 bytes", g -> g.orders(2, 10, 100), -3);
        b.emptiesTape(filled(40, 0), "orders(2, 20, 100) of 40 bytes", g -> g.orders(2, 20, 100), -3);
    }

    /** Nothing may be left of the twos before. */
    private void twosBefore() {
        GrownInitials g = new GrownInitials();
        for (int go = 0; go < 2; go++) {
            Due.feed(g, 9, 0, 8, 1, 0, 9);
            b.is("none by three twos", g.orders(10, 3, 100), 0);
            Due.feed(g, 0, 1);
            b.is("half of all by one", g.orders(10, 1, 100), 1814400);
            Due.feed(g, 1, 0);
            b.is("the place of the one behind", g.orders(2, 1, 0), 1);
            Due.feed(g, 0, 1);
            b.is("the place of it ahead", g.orders(2, 1, 0), 0);
        }
    }

    /** MEMORY of the six cuts of the common that is looked at, then 255. */
    private static int[] memories() {
        GrownInitials g = Look.grown(0);
        int[] bytes = filled(16, END);
        for (int c = 0; c < 6; c++) {
            bytes[c] = g.cutIs(c, 9);
        }
        return bytes;
    }

    private void check() {
        b.part("Terms");
        b.sentence("CHECK: MEMORY of CUTS: right, or the first that is not so.");
        int[] right = memories();
        b.emptiesTape(right, "right", g -> g.check(16), -1);
        for (int c = 0; c < 16; c++) {
            int first = c;
            for (int by : new int[] {1, END}) {
                int[] wrong = right.clone();
                wrong[c] = (wrong[c] + by) & 255;
                b.emptiesTape(wrong, "wrong at " + c, g -> g.check(16), c);
                b.emptiesTape(wrong, "wrong at the last byte " + c, g -> g.check(first + 1), c);
                if (c > 0) {
                    b.emptiesTape(wrong, "wrong behind the bytes, at " + c, g -> g.check(first), -1);
                }
            }
        }
        int[] two = right.clone();
        two[2] = 1;
        two[9] = 1;
        b.emptiesTape(two, "the first of two", g -> g.check(16), 2);
    }

    private void checkRefused() {
        b.promise(31);
        b.sentence("CHECK by the first n bytes of the tape (0 to 16; empty then; of CUTS there are not 255): NONE: right; "
            + "else the first that is not so; -2: no such n, it has not so many (the tape stays).");
        for (int n : new int[] {-1, 17, 260, Integer.MIN_VALUE, Integer.MAX_VALUE}) {
            b.leavesAll(13, "check(" + n + ")", g -> g.check(n), -2);
        }
        b.leavesAll(0, "check(1) of an empty tape", g -> g.check(1), -2);
        b.leavesAll(0, "check(16) of an empty tape", g -> g.check(16), -2);
        b.leavesAll(0, "check(-1) of an empty tape", g -> g.check(-1), -2);
        b.leavesAll(0, "check(0) of an empty tape", g -> g.check(0), -1);
        b.emptiesTape(filled(260, 7), "check(0) of 260 bytes", g -> g.check(0), -1);
        b.emptiesTape(memories(), "check(6)", g -> g.check(6), -1);
        b.emptiesTape(memories(), "check(7), one that is not", g -> g.check(7), -1);
        int[] none = memories();
        none[6] = 99;
        b.emptiesTape(none, "check(7), 99 of one that is not", g -> g.check(7), 6);
        int[] lost = memories();
        lost[5] = END;
        b.emptiesTape(lost, "255 of one that is", g -> g.check(6), 5);
        GrownInitials g = new GrownInitials();
        Due.feed(g, filled(16, END));
        b.is("of no CUTS", g.check(16), -1);
        Due.feed(g, 0);
        b.is("0 of no CUTS", g.check(1), 0);
        g = Due.common("0,0:A;".repeat(15) + "0,0:B");
        Due.feed(g, filled(16, 99));
        b.is("of sixteen", g.check(16), -1);
        Due.feed(g, filled(16, 99, END));
        b.is("255 of the last one", g.check(16), 15);
    }
}
