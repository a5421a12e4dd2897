/** Bounds of promises 2, 8, 11 to 14, 16 and 17: homes, what a cut is, letters, nearest, dates. */
final class CutBounds {
    private static final int[] WRONG_CUTS = {-1, 6, 15, 16, Integer.MIN_VALUE, Integer.MAX_VALUE};
    private static final int[] WRONG_OF_TWO = {-1, 2, 100, Integer.MIN_VALUE, Integer.MAX_VALUE};

    private final Bounds b;

    CutBounds(Bounds b) {
        this.b = b;
    }

    void ask() {
        home();
        cutIs();
        single();
        who();
        letters();
        nearest();
        dates();
        busiest();
    }

    private static GrownInitials sixteen(String initials) {
        return Due.common(("0,0:" + initials + ";").repeat(15) + "0,0:" + initials);
    }

    private void home() {
        b.promise(2);
        b.sentence("HOME of a CUT: true; false: no such ones.");
        for (int c : WRONG_CUTS) {
            b.leavesAll(2, "home(" + c + ", 0, 0)", g -> g.home(c, 0, 0) ? 1 : 0, 0);
        }
        for (int x : new int[] {-1, 24, Integer.MIN_VALUE, Integer.MAX_VALUE}) {
            b.leavesAll(2, "home(0, " + x + ", 0)", g -> g.home(0, x, 0) ? 1 : 0, 0);
        }
        for (int y : new int[] {-1, 16, Integer.MIN_VALUE, Integer.MAX_VALUE}) {
            b.leavesAll(2, "home(0, 0, " + y + ")", g -> g.home(0, 0, y) ? 1 : 0, 0);
        }
        GrownInitials g = sixteen("A");
        b.is("home(15, 23, 15)", g.home(15, 23, 15), true);
        b.is("HOME of the last one", g.cutIs(15, 7), 383);
        b.is("HOME of the one before it", g.cutIs(14, 7), 0);
        b.is("home(16, 23, 15)", g.home(16, 23, 15), false);
        b.is("home(0, 0, 15)", g.home(0, 0, 15), true);
        b.is("HOME of the first one", g.cutIs(0, 7), 360);
        b.is("home(0, 23, 0)", g.home(0, 23, 0), true);
        b.is("HOME of it now", g.cutIs(0, 7), 23);
        b.is("home(0, 0, 0)", g.home(0, 0, 0), true);
        b.is("HOME of it at last", g.cutIs(0, 7), 0);
        b.is("home(0, 0, 0) of none", new GrownInitials().home(0, 0, 0), false);
    }

    private void cutIs() {
        b.promise(8);
        b.sentence("Of a CUT, what 0 its TREE (24 Y and X), 1 the first letter, 2 the second one (none: -2, an "
            + "ampersand: -3), 3 in a HEART, 4 CROSSED OUT, 5 with an ARROW (1, 0), 6 the DATE (none: -2), 7 HOME, 8 "
            + "its PLACE, 9 MEMORY, 10 CALLS, 11 0 to 4 as above, 12 going HOME 0, BACK 1; NONE for others.");
        for (int c : WRONG_CUTS) {
            b.leavesAll(2, "cutIs(" + c + ", 0)", g -> g.cutIs(c, 0), -1);
            b.leavesAll(2, "cutIs(" + c + ", 12)", g -> g.cutIs(c, 12), -1);
        }
        for (int what : new int[] {-1, 13, 100, Integer.MIN_VALUE, Integer.MAX_VALUE}) {
            b.leavesAll(2, "cutIs(0, " + what + ")", g -> g.cutIs(0, what), -1);
        }
        GrownInitials g = Due.common("23,15:P;0,0:x[A&]00>;1,1:BP99;0,1:A&P");
        int[][] due = {
            {383, 15, -2, 0, 0, 0, -2, 383, 383, 99, 0, 0, 0},
            {0, 0, -3, 1, 1, 1, 0, 0, 0, 99, 0, 0, 0},
            {25, 1, 15, 0, 0, 0, 99, 25, 25, 99, 0, 0, 0},
            {24, 0, 15, 0, 0, 0, -2, 24, 24, 99, 0, 0, 0}};
        for (int c = 0; c < due.length; c++) {
            for (int what = 0; what <= 12; what++) {
                b.is("cutIs(" + c + ", " + what + ")", g.cutIs(c, what), due[c][what]);
            }
        }
        b.is("cutIs(4, 0)", g.cutIs(4, 0), -1);
        g = Due.common("0,0:A;0,0:B;0,0:C", "v0(1=1);x(c=1);f99(c=2)");
        b.is("GROWING 0", g.cutIs(0, 11), 0);
        g.seasons(1);
        b.is("UP 1", g.cutIs(0, 11), 1);
        b.is("FELLED 4", g.cutIs(1, 11), 4);
        b.is("ROOTED 3", g.cutIs(2, 11), 3);
        b.is("MEMORY 0", g.cutIs(2, 9), 0);
        g.seasons(1);
        b.is("ABOUT 2", g.cutIs(0, 11), 2);
        b.is("going HOME", g.cutIs(0, 12), 0);
        g.seasons(1);
        b.is("BACK", g.cutIs(0, 12), 1);
        b.is("CALLS", g.cutIs(0, 10), 1);
        g.seasons(1);
        b.is("going HOME again", g.cutIs(0, 12), 0);
        b.is("cutIs(0, 0) of none", new GrownInitials().cutIs(0, 0), -1);
    }

    private void single() {
        b.part("Terms");
        b.sentence("SINGLE: CUTS of one letter (bits; A& is of one, too); those of them that have an ampersand.");
        GrownInitials g = Due.common("0,0:A;0,0:A&;0,0:AB;0,0:A&B;0,0:[P];0,0:[P&]");
        b.is("of one letter", g.single(0), 0b110011);
        b.is("with an ampersand", g.single(1), 0b100010);
        g = Due.common("0,0:BA;0,0:B&A;0,0:PA");
        b.is("an A that is the second letter", g.single(0), 0);
        b.is("an A that is the second letter behind an ampersand", g.single(1), 0);
        b.promise(11);
        b.sentence("SINGLE, what 0 of one letter, 1 with an ampersand (bits); NONE: no such what.");
        for (int what : WRONG_OF_TWO) {
            b.leavesAll(2, "single(" + what + ")", h -> h.single(what), -1);
        }
        b.is("none of no CUTS", new GrownInitials().single(0), 0);
        b.is("none of no CUTS with an ampersand", new GrownInitials().single(1), 0);
        b.is("all sixteen", sixteen("A&").single(0), 65535);
        b.is("all sixteen with an ampersand", sixteen("A&").single(1), 65535);
        b.is("none with an ampersand", sixteen("A").single(1), 0);
        b.is("none of one letter", sixteen("A&B").single(0), 0);
        b.is("none of one letter with an ampersand", sixteen("A&B").single(1), 0);
    }

    private void who() {
        b.part("Terms");
        b.sentence("WHO: CUTS with a letter (bits).");
        GrownInitials some = Due.common("0,0:A;0,0:B;0,0:CA;0,0:D&;0,0:D&A");
        b.is("as the first or the second one, in any state", some.who(0), 0b10101);
        b.is("with an ampersand that waits", some.who(3), 0b11000);
        b.is("with none of them", some.who(4), 0);
        b.promise(12);
        b.sentence("WHO has a letter (0 to 15): bits; NONE: no such letter.");
        for (int letter : new int[] {-1, -2, -3, 16, 65, Integer.MIN_VALUE, Integer.MAX_VALUE}) {
            b.leavesAll(2, "who(" + letter + ")", g -> g.who(letter), -1);
        }
        GrownInitials g = Due.common("0,0:A;0,0:PA;0,0:B&P;0,0:P&");
        b.is("who(0)", g.who(0), 0b0011);
        b.is("who(15)", g.who(15), 0b1110);
        b.is("who(1)", g.who(1), 0b0100);
        b.is("who(2)", g.who(2), 0);
        b.is("all sixteen", sixteen("AP").who(15), 65535);
        b.is("who(0) of none", new GrownInitials().who(0), 0);
        b.is("who(15) of none", new GrownInitials().who(15), 0);
        b.is("who(16) of none", new GrownInitials().who(16), -1);
    }

    private void letters() {
        b.part("Terms");
        b.sentence("LETTERS that go about: those of CUTS that are ABOUT (bits).");
        b.is("of no CUTS", new GrownInitials().letters(), 0);
        GrownInitials g = Due.common("0,0:AB;0,0:CD;0,0:EF;0,0:GH;0,0:IJ;0,0:KL;0,0:MN;0,0:O&P");
        b.is("of none that is ABOUT", g.letters(), 0);
        g.seasons(1);
        b.is("of those UP", g.letters(), 0);
        g.seasons(1);
        b.is("all sixteen", g.letters(), 65535);
        Due.law(g, "f99(c=0);x(c=7);v0(1=1)");
        g.home(0, 9, 9);
        g.seasons(1);
        b.is("none of one ROOTED, none of one FELLED", g.letters(), 0x3FFC);
        b.promise(13);
        b.sentence("LETTERS that go about: bits.");
        g = Due.common("0,0:A&;0,0:A;0,0:P&");
        g.seasons(2);
        b.is("the first and the last, an ampersand is none", g.letters(), 0x8001);
        g = Due.common("0,0:BA");
        g.seasons(2);
        b.is("an A that is the second letter", g.letters(), 3);
        g = sixteen("P");
        g.seasons(2);
        b.is("of sixteen", g.letters(), 0x8000);
    }

    private void nearest() {
        b.part("Terms");
        b.sentence("NEAREST to a CUT: the other CUT the fewest steps from its PLACE (of like ones the lowest); how "
            + "many.");
        GrownInitials g = Due.common("5,5:A;5,7:B;7,5:C;5,3:D;5,5:E");
        b.is("at the same PLACE", g.nearest(0, 0), 4);
        b.is("0 steps", g.nearest(0, 1), 0);
        b.is("the other way", g.nearest(4, 0), 0);
        b.is("of like ones the lowest", g.nearest(1, 0), 0);
        b.is("2 steps", g.nearest(1, 1), 2);
        g = Due.common("0,0:A;23,15:B");
        b.is("the farthest", g.nearest(0, 1), 38);
        b.is("who", g.nearest(1, 0), 0);
        g.home(1, 0, 15);
        g.seasons(12);
        b.is("by its PLACE, not its TREE", g.nearest(0, 1), 28);
        b.promise(14);
        b.sentence("NEAREST to a CUT, what 0 who (no other: -2), 1 how many steps (no other: -2); NONE: no such ones.");
        for (int c : WRONG_CUTS) {
            b.leavesAll(2, "nearest(" + c + ", 0)", h -> h.nearest(c, 0), -1);
            b.leavesAll(2, "nearest(" + c + ", 1)", h -> h.nearest(c, 1), -1);
        }
        for (int what : WRONG_OF_TWO) {
            b.leavesAll(2, "nearest(0, " + what + ")", h -> h.nearest(0, what), -1);
        }
        g = Due.common("3,3:A");
        b.is("no other: who", g.nearest(0, 0), -2);
        b.is("no other: how many steps", g.nearest(0, 1), -2);
        b.is("no other, no such what", g.nearest(0, 2), -1);
        b.is("no such CUT", g.nearest(1, 0), -1);
        b.is("of none", new GrownInitials().nearest(0, 0), -1);
        b.is("the last of sixteen", sixteen("A").nearest(15, 0), 0);
        b.is("the first of sixteen", sixteen("A").nearest(0, 0), 1);
    }

    private void dates() {
        b.part("Terms");
        b.sentence("DATES: how many CUTS have one; the lowest; the highest.");
        dated(Due.common("0,0:A12;0,0:B;0,0:C11;0,0:D13"), 3, 11, 13);
        dated(Due.common("0,0:A;0,0:B08"), 1, 8, 8);
        b.promise(16);
        b.sentence("DATES, what 0 how many, 1 the lowest, 2 the highest (of 1, 2 none: -2); NONE: no such what.");
        for (int what : new int[] {-1, 3, 100, Integer.MIN_VALUE, Integer.MAX_VALUE}) {
            b.leavesAll(2, "dates(" + what + ")", g -> g.dates(what), -1);
        }
        dated(new GrownInitials(), 0, -2, -2);
        dated(Due.common("0,0:A"), 0, -2, -2);
        dated(Due.common("0,0:A00"), 1, 0, 0);
        dated(Due.common("0,0:A99"), 1, 99, 99);
        dated(Due.common("0,0:A;0,0:A99;0,0:A00;0,0:A50;0,0:A50"), 4, 0, 99);
        dated(sixteen("A77"), 16, 77, 77);
    }

    private void dated(GrownInitials g, int many, int lowest, int highest) {
        b.is("how many of " + g.count(1), g.dates(0), many);
        b.is("the lowest", g.dates(1), lowest);
        b.is("the highest", g.dates(2), highest);
    }

    private void busiest() {
        b.part("Terms");
        b.sentence("BUSIEST: the PLACE that is HOME of most CUTS (of like ones the lowest); of how many.");
        GrownInitials g = Due.common("23,15:A;22,15:B;23,15:C;22,15:D");
        b.is("of like ones the lowest", g.busiest(0), 382);
        b.is("of two", g.busiest(1), 2);
        g.home(1, 0, 0);
        b.is("of most", g.busiest(0), 383);
        g.home(0, 0, 1);
        b.is("of one each the lowest", g.busiest(0), 0);
        b.is("of one", g.busiest(1), 1);
        b.promise(17);
        b.sentence("BUSIEST, what 0 the PLACE (24 Y and X; no CUTS: -2), 1 of how many; NONE: no such what.");
        for (int what : WRONG_OF_TWO) {
            b.leavesAll(2, "busiest(" + what + ")", h -> h.busiest(what), -1);
        }
        b.is("no CUTS: the PLACE", new GrownInitials().busiest(0), -2);
        b.is("no CUTS: of how many", new GrownInitials().busiest(1), 0);
        b.is("no CUTS, no such what", new GrownInitials().busiest(2), -1);
        g = sixteen("A");
        b.is("all sixteen", g.busiest(1), 16);
        b.is("at 0, 0", g.busiest(0), 0);
        b.is("24 Y and X", Due.common("3,2:A").busiest(0), 51);
    }
}
