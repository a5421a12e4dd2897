/** Bounds of THE COMMON, of BARK and of promise 5. */
final class BarkBounds {
    private static final String SIXTEEN = "0,0:A;".repeat(15) + "1,1:B";
    private static final String WHOLE = "12,10:x[A&B]07>;3,4:C";

    private final Bounds b;

    BarkBounds(Bounds b) {
        this.b = b;
    }

    void ask() {
        b.part("Terms");
        places();
        cutsAndInitials();
        datesAndHomes();
        atFirst();
        text();
        sixteen();
        numbers();
        whatStandsWhere();
        initials();
        whatCannotStand();
        thirdDigit();
        offTheCommon();
        seventeenth();
        sameLetter();
        asAtFirst();
        promise();
    }

    private void right(String bark, int cuts) {
        GrownInitials g = new GrownInitials();
        b.is("bark " + bark, Due.bark(g, bark), cuts);
        b.is("CUTS of " + bark, g.count(1), cuts);
    }

    private void fault(String bark, int number, int place) {
        b.emptiesTape(Due.bytesOf(bark), "bark " + bark, g -> g.bark(bark.length()), -1000 * number - place);
    }

    private void places() {
        b.sentence("THE COMMON: PLACES, X 0 to 23, Y 0 to 15.");
        GrownInitials g = Due.common("0,0:A;23,0:B;0,15:C;23,15:D");
        b.is("TREE at 0, 0", g.cutIs(0, 0), 0);
        b.is("TREE at 23, 0", g.cutIs(1, 0), 23);
        b.is("TREE at 0, 15", g.cutIs(2, 0), 360);
        b.is("TREE at 23, 15", g.cutIs(3, 0), 383);
        fault("24,0:A", 3, 0);
        fault("0,16:A", 3, 2);
        b.is("HOME at 23, 15", g.home(0, 23, 15), true);
        b.is("HOME at 24, 15", g.home(0, 24, 15), false);
        b.is("HOME at 23, 16", g.home(0, 23, 16), false);
        b.is("HOME", g.cutIs(0, 7), 383);
        b.is("HOME at 0, 0", g.home(0, 0, 0), true);
        b.is("HOME at -1, 0", g.home(0, -1, 0), false);
        b.is("HOME at 0, -1", g.home(0, 0, -1), false);
        b.is("HOME", g.cutIs(0, 7), 0);
    }

    private void cutsAndInitials() {
        b.sentence("CUTS 0 to 15: each on a TREE (a PLACE), of INITIALS (one or two letters A to P, 0 to 15), "
            + "or one and an ampersand that waits for another one;");
        GrownInitials g = Due.common(SIXTEEN);
        b.is("CUT 0", g.cutIs(0, 0), 0);
        b.is("CUT 15", g.cutIs(15, 0), 25);
        b.is("CUT 16", g.cutIs(16, 0), -1);
        b.is("CUT -1", g.cutIs(-1, 0), -1);
        g = Due.common("0,0:A;0,0:P;0,0:AP;0,0:P&A;0,0:P&");
        b.is("A", g.cutIs(0, 1), 0);
        b.is("A alone", g.cutIs(0, 2), -2);
        b.is("P", g.cutIs(1, 1), 15);
        b.is("AP", g.cutIs(2, 2), 15);
        b.is("P&A", g.cutIs(3, 2), 0);
        b.is("P&", g.cutIs(4, 2), -3);
        fault("0,0:@", 1, 4);
        fault("0,0:Q", 1, 4);
        fault("0,0:A@", 1, 5);
        fault("0,0:AQ", 1, 5);
        fault("0,0:A&@", 1, 6);
        fault("0,0:A&Q", 1, 6);
        fault("0,0:a", 1, 4);
        fault("0,0:ABC", 1, 6);
    }

    private void datesAndHomes() {
        b.sentence("with a DATE (0 to 99) or none, an ARROW (a dog) or none; a HOME (a PLACE; its TREE at first).");
        GrownInitials g = Due.common("0,0:A00;23,15:A99;5,6:A;7,8:A>");
        b.is("DATE 00", g.cutIs(0, 6), 0);
        b.is("DATE 99", g.cutIs(1, 6), 99);
        b.is("no DATE", g.cutIs(2, 6), -2);
        b.is("no ARROW", g.cutIs(2, 5), 0);
        b.is("ARROW", g.cutIs(3, 5), 1);
        b.is("HOME at 0, 0", g.cutIs(0, 7), 0);
        b.is("HOME at 23, 15", g.cutIs(1, 7), 383);
        b.is("HOME at 5, 6", g.cutIs(2, 7), 149);
    }

    private void atFirst() {
        b.sentence("Each is GROWING (0 at first), UP (1), ABOUT (2), ROOTED (3) or FELLED (4), at a PLACE (its TREE at "
            + "first), with MEMORY (0 to 99; 99 at first), CALLS (0 at first; 9999 at most), going HOME (at first) or "
            + "BACK.");
        GrownInitials g = Due.common("3,4:A>;5,6:B;7,8:C;9,9:D", "x(c=1&s=2);f99(c=2&s=1);v9(1=1)");
        int[] first = {99, 0, -2, 0, 0, 1, -2, 99, 99, 99, 0, 0, 0};
        for (int what = 0; what < first.length; what++) {
            b.is("cutIs(0, " + what + ") at first", g.cutIs(0, what), first[what]);
        }
        g.seasons(1);
        b.is("UP", g.cutIs(0, 11), 1);
        b.is("MEMORY 99", g.cutIs(2, 9), 99);
        g.seasons(1);
        b.is("ABOUT", g.cutIs(0, 11), 2);
        b.is("ROOTED", g.cutIs(2, 11), 3);
        b.is("MEMORY 0", g.cutIs(2, 9), 0);
        g.seasons(1);
        b.is("FELLED", g.cutIs(1, 11), 4);
        mostCalls(g);
        b.sentence("THE SEASON (0 at first).");
        b.is("THE SEASON", new GrownInitials().count(0), 0);
    }

    /** The first cut turns eleven times in a season, ahead of ten steps and behind each. */
    private void mostCalls(GrownInitials g) {
        b.is("CALLS in its first season ABOUT", g.cutIs(0, 10), 6);
        b.is("going BACK", g.cutIs(0, 12), 1);
        for (int i = 0; i < 18; i++) {
            g.seasons(100);
        }
        b.is("CALLS of 1801 seasons ABOUT", g.cutIs(0, 10), 1801 * 11 / 2 + 1);
        g.seasons(16);
        b.is("CALLS of 1817", g.cutIs(0, 10), 1817 * 11 / 2 + 1);
        b.is("CALLS of one more", g.tried(1, 0), 5 + 5);
        g.seasons(1);
        b.is("CALLS of 1818", g.cutIs(0, 10), 1818 * 11 / 2);
        g.seasons(1);
        b.is("CALLS 9999 at most", g.cutIs(0, 10), 9999);
        g.seasons(100);
        b.is("CALLS stay 9999", g.cutIs(0, 10), 9999);
        Due.law(g, "f50(k=9999);v9(1=1)");
        b.is("MEMORY 99 by a call beyond, then f less", g.tried(1, 40), 49);
    }

    private void text() {
        b.sentence("BARK: a TEXT of at most 160 bytes, no blanks (none at first):");
        b.is("CUTS of a new one", new GrownInitials().count(1), 0);
        String longest = "10,10:[AB];".repeat(14) + "1,1:AB";
        b.is("bytes", longest.length(), 160);
        right(longest, 15);
        b.leavesAll(13, "bark(161)", g -> g.bark(161), -1);
        for (int i = 0; i <= WHOLE.length(); i++) {
            fault(WHOLE.substring(0, i) + " " + WHOLE.substring(i), 1, i);
        }
        right(WHOLE, 2);
    }

    private void sixteen() {
        b.sentence("CUTS with a ; (59) between two (16 at most):");
        right("0,0:A", 1);
        right("0,0:A;0,0:A", 2);
        right(SIXTEEN, 16);
        fault(SIXTEEN + ";0,0:A", 4, 96);
        fault(";0,0:A", 1, 0);
        fault("0,0:A;;0,0:A", 1, 6);
        fault("0,0:A;", 1, 6);
        fault("0,0:A0,0:A", 1, 6);
        fault("0,0:A:0,0:A", 1, 5);
    }

    private void numbers() {
        b.sentence("X , Y : (numbers of one or two digits),");
        GrownInitials g = Due.common("0,0:A;00,00:A;9,9:A;09,09:A;10,10:A");
        b.is("0,0", g.cutIs(0, 0), 0);
        b.is("00,00", g.cutIs(1, 0), 0);
        b.is("9,9", g.cutIs(2, 0), 225);
        b.is("09,09", g.cutIs(3, 0), 225);
        b.is("10,10", g.cutIs(4, 0), 250);
        fault(",0:A", 1, 0);
        fault("0,:A", 1, 2);
        fault("000,0:A", 2, 2);
        fault("0,000:A", 2, 4);
        fault("/,0:A", 1, 0);
        fault("::0:A", 1, 0);
        fault("0,/:A", 1, 2);
        fault("0:0:A", 1, 1);
        fault("0,0,A", 1, 3);
    }

    private void whatStandsWhere() {
        b.sentence("perhaps x (120, CROSSED OUT), then INITIALS, or [ (91) INITIALS ] (93; in a HEART), then perhaps "
            + "two digits (a DATE), then perhaps > (62, an ARROW).");
        for (int set = 0; set < 16; set++) {
            boolean isHeart = (set & 2) != 0;
            String bark = "1,2:" + ((set & 1) != 0 ? "x" : "") + (isHeart ? "[A]" : "A") + ((set & 4) != 0 ? "34" : "")
                + ((set & 8) != 0 ? ">" : "");
            GrownInitials g = new GrownInitials();
            b.is("bark " + bark, Due.bark(g, bark), 1);
            b.is("CROSSED OUT of " + bark, g.cutIs(0, 4), set & 1);
            b.is("HEART of " + bark, g.cutIs(0, 3), set >> 1 & 1);
            b.is("DATE of " + bark, g.cutIs(0, 6), (set & 4) != 0 ? 34 : -2);
            b.is("ARROW of " + bark, g.cutIs(0, 5), set >> 3 & 1);
        }
        fault("1,2:XA", 1, 4);
        fault("1,2:xxA", 1, 5);
        fault("1,2:[xA]", 1, 5);
        fault("1,2:Ax", 1, 5);
        fault("1,2:[[A]]", 1, 5);
        fault("1,2:[]", 1, 5);
        fault("1,2:[A]]", 1, 7);
        fault("1,2:A]", 1, 5);
        fault("1,2:[A34]", 1, 6);
        fault("1,2:[A>]", 1, 6);
        fault("1,2:A3", 1, 6);
        fault("1,2:A3>", 1, 6);
        fault("1,2:A345", 1, 7);
        fault("1,2:A>34", 1, 6);
        fault("1,2:A>>", 1, 6);
        fault("1,2:A34>>", 1, 8);
    }

    private void initials() {
        b.sentence("INITIALS: a letter A to P, then perhaps & (38), then perhaps another letter (unlike; it may stand "
            + "without the &, too: A, A&, AB, A&B; A& waits for another one).");
        String[] right = {"A", "A&", "AB", "A&B", "[A]", "[A&]", "[AB]", "[A&B]"};
        int[] second = {-2, -3, 1, 1, -2, -3, 1, 1};
        for (int i = 0; i < right.length; i++) {
            GrownInitials g = Due.common("0,0:" + right[i]);
            b.is("first letter of " + right[i], g.cutIs(0, 1), 0);
            b.is("second letter of " + right[i], g.cutIs(0, 2), second[i]);
        }
        fault("0,0:&", 1, 4);
        fault("0,0:&A", 1, 4);
        fault("0,0:A&&", 1, 6);
        fault("0,0:AB&", 1, 6);
        fault("0,0:A&BC", 1, 7);
        fault("0,0:ABC", 1, 6);
    }

    private void whatCannotStand() {
        b.sentence("FAULTS, the first from the left: 1 what can't stand there (the end, too);");
        int lastWhole = WHOLE.indexOf(";");
        for (int end = 1; end < WHOLE.length(); end++) {
            boolean isWhole = end == lastWhole || end == lastWhole - 1 || end == lastWhole - 3;
            if (isWhole) {
                right(WHOLE.substring(0, end), 1);
            } else {
                fault(WHOLE.substring(0, end), 1, end);
            }
        }
        for (int at = 0; at < WHOLE.length(); at++) {
            fault(WHOLE.substring(0, at) + "?" + WHOLE.substring(at + 1), 1, at);
            fault(WHOLE.substring(0, at) + (char) 255 + WHOLE.substring(at + 1), 1, at);
            fault(WHOLE.substring(0, at) + (char) 0 + WHOLE.substring(at + 1), 1, at);
        }
        fault("?,0:AA", 1, 0);
        fault("24,0:AA", 3, 0);
        fault("0,0:AA;24,0:A", 6, 5);
        fault("0,0:A;24,0:A;000", 3, 6);
        fault("0,0:A;000;24,0:A", 2, 8);
    }

    private void thirdDigit() {
        b.sentence("2 a third digit, at it;");
        right("12,12:A", 1);
        fault("123,1:A", 2, 2);
        fault("000,1:A", 2, 2);
        fault("990,1:A", 2, 2);
        fault("1,123:A", 2, 4);
        fault("12,123:A", 2, 5);
        fault("1,990:A", 2, 4);
        fault("1,123", 2, 4);
        fault("0,0:A;123", 2, 8);
        fault("1234,1:A", 2, 2);
    }

    private void offTheCommon() {
        b.sentence("3 X above 23, Y above 15, at its first digit (asked when it ends);");
        right("23,15:A", 1);
        right("23,9:A", 1);
        fault("24,15:A", 3, 0);
        fault("99,15:A", 3, 0);
        fault("23,16:A", 3, 3);
        fault("23,99:A", 3, 3);
        fault("0,0:A;24,0:B", 3, 6);
        fault("0,0:A;0,16:B", 3, 8);
        fault("24,16:A", 3, 0);
        fault("24", 3, 0);
        fault("24?", 3, 0);
        fault("23", 1, 2);
        fault("0,16", 3, 2);
        fault("0,16?", 3, 2);
        fault("0,15", 1, 4);
        fault("240,0:A", 2, 2);
        fault("0,160:A", 2, 4);
    }

    private void seventeenth() {
        b.sentence("4 a 17th CUT, at its first digit (if that can stand there);");
        right(SIXTEEN, 16);
        fault(SIXTEEN + ";0", 4, 96);
        fault(SIXTEEN + ";9", 4, 96);
        fault(SIXTEEN + ";24,0:A", 4, 96);
        fault(SIXTEEN + ";000", 4, 96);
        fault(SIXTEEN + ";0,0:AA", 4, 96);
        fault(SIXTEEN + ";", 1, 96);
        fault(SIXTEEN + ";;", 1, 96);
        fault(SIXTEEN + ";x", 1, 96);
        fault(SIXTEEN + ";/", 1, 96);
        fault(SIXTEEN + ";:", 1, 96);
        fault(SIXTEEN + "0", 1, 96);
    }

    private void sameLetter() {
        b.sentence("6 the same letter twice in a CUT, at the second one.");
        right("0,0:AB;0,0:A", 2);
        right("0,0:A;0,0:A", 2);
        right("0,0:BA", 1);
        fault("0,0:AA", 6, 5);
        fault("0,0:PP", 6, 5);
        fault("0,0:A&A", 6, 6);
        fault("0,0:[AA]", 6, 6);
        fault("0,0:x[P&P]99>", 6, 8);
        fault("0,0:A;0,0:BB?", 6, 11);
        fault("0,0:ABA", 1, 6);
        fault("0,0:ABB", 1, 6);
    }

    private void asAtFirst() {
        b.sentence("All CUTS are as at first then.");
        GrownInitials g = Look.grown(0);
        int season = g.count(0);
        int x = g.count(7);
        Due.bark(g, "2,3:A;4,5:B;6,7:C;8,9:D;10,11:E;12,13:F;14,15:G");
        for (int c = 0; c < 7; c++) {
            int tree = 24 * (2 * c + 3) + 2 * c + 2;
            int[] first = {tree, c, -2, 0, 0, 0, -2, tree, tree, 99, 0, 0, 0};
            for (int what = 0; what < first.length; what++) {
                b.is("cutIs(" + c + ", " + what + ")", g.cutIs(c, what), first[what]);
            }
        }
        b.is("none ABOUT", g.count(2), 0);
        b.is("none ROOTED", g.count(3), 0);
        b.is("CALLS of all", g.count(4), 0);
        b.is("TREES", g.trees(), 7);
        b.is("THE SEASON stays", g.count(0), season);
        b.is("X stays", g.count(7), x);
        b.is("RULES stay", g.count(5), 4);
        fewerThanBefore();
    }

    /** Of sixteen, in each state, only one is left: nothing may be seen of the others. */
    private void fewerThanBefore() {
        GrownInitials g = Due.common("2,2:AB50>;".repeat(15) + "9,9:P", "f99(c>11);x(c>7&c<12)");
        for (int c = 4; c < 16; c++) {
            g.home(c, 20, 10);
        }
        g.seasons(3);
        b.is("CALLS of four, with a dog", g.count(4), 4 * 2);
        b.is("ABOUT", g.count(2), 0x00FF);
        b.is("ROOTED", g.count(3), 0xF000);
        Due.bark(g, "5,5:C");
        int[] counts = {3, 1, 0, 0, 0};
        for (int what = 0; what < counts.length; what++) {
            b.is("count(" + what + ") of one", g.count(what), counts[what]);
        }
        b.is("CUT 1", g.cutIs(1, 0), -1);
        b.is("letters of one", g.letters(), 0);
        b.is("who has an A", g.who(0), 0);
        b.is("single of one", g.single(0), 1);
        b.is("dates of one", g.dates(0), 0);
        b.is("nearest to one", g.nearest(0, 0), -2);
        b.is("busiest of one", g.busiest(0), 125);
        b.is("groups of one", g.groups(38, 100), 1);
        b.is("its group", g.groups(38, 0), 1);
        b.is("TREES of one", g.trees(), 1);
        b.is("corners of one", g.fence(0), 1);
        b.is("paths of one", g.paths(), 0);
        b.is("crossing of one", g.crossing(), 0);
        b.is("round of two", g.round(3, 0), -1);
        b.is("CALLS tried of one", g.tried(3, 0), 1);
        b.is("ROOTED ones tried", g.tried(3, 1), 0);
        b.is("FELLED ones tried", g.tried(3, 2), 0);
        Due.law(g, "f1+n(1=1);v0(1=1)");
        b.is("n of one", g.tried(1, 40), 98);
        g.feed(0x63FFFFFF, 0xFFFFFFFF, 0xFFFFFFFF, 0xFFFFFFFF, 0);
        b.is("check of one", g.check(16), -1);
        Due.feed(g, 0, 255);
        b.is("words of one", g.words(2, 0), 0);
    }

    private void promise() {
        b.promise(5);
        b.sentence("BARK by the first n bytes of the tape (1 to 160; empty then): how many CUTS; a FAULT (all stays); "
            + "NONE: as above.");
        for (int n : new int[] {0, -1, 161, 260, 261, Integer.MIN_VALUE, Integer.MAX_VALUE}) {
            b.leavesAll(13, "bark(" + n + ")", g -> g.bark(n), -1);
        }
        b.leavesAll(0, "bark(1) of an empty tape", g -> g.bark(1), -1);
        b.leavesAll(0, "bark(0) of an empty tape", g -> g.bark(0), -1);
        b.leavesAll(1, "bark(21) of 20 bytes", g -> g.bark(21), -1);
        b.leavesAll(7, "bark(141) of 140 bytes", g -> g.bark(141), -1);
        b.leavesAll(7, "bark(160) of 140 bytes", g -> g.bark(160), -1);
        firstBytes(1, 19, 2);
        firstBytes(13, 8, 1);
        firstBytes(13, 159, 16);
        GrownInitials g = Look.grown(1);
        b.is("bark(20) of 20 bytes", g.bark(20), -1020);
        b.is("the tape is empty behind a fault", g.count(6), 0);
        g = Look.grown(1);
        b.is("bark(1)", g.bark(1), -1001);
        g = Look.grown(8);
        b.is("bark(160) of 160 bytes", g.bark(160), -1160);
        b.is("CUTS stay", g.count(1), 6);
    }

    private void firstBytes(int feeds, int n, int cuts) {
        GrownInitials g = Look.grown(feeds);
        b.is("bark(" + n + ") of " + 20 * feeds + " bytes", g.bark(n), cuts);
        b.is("CUTS", g.count(1), cuts);
        b.is("the tape is empty", g.count(6), 0);
    }
}
