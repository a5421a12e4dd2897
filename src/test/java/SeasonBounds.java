/** Bounds of A SEASON, of what is TRIED, and of promises 6, 7, 9, 10, 15 and 28. */
final class SeasonBounds {
    private static final int[] WRONG_SPANS = {0, -1, 101, Integer.MIN_VALUE, Integer.MAX_VALUE};
    private static final int[] WRONG_CUTS = {-1, 6, 16, Integer.MIN_VALUE, Integer.MAX_VALUE};

    private final Bounds b;

    SeasonBounds(Bounds b) {
        this.b = b;
    }

    void ask() {
        b.part("Terms");
        whoseSeason();
        growing();
        goingSteps();
        turning();
        forgetting();
        lastSeason();
        draws();
        triedChangesNothing();
        meetAndRoots();
        seasons();
        tried();
        meet();
        roots();
        strays();
        seed();
    }

    private static int next(int x) {
        return (int) ((25173L * x + 13849) % 65536);
    }

    /** A hundred seasons a call, so that an object's 512 calls last. */
    private static GrownInitials inSeason(int season, String bark) {
        GrownInitials g = Due.common(bark);
        for (int i = 0; i < season / 100; i++) {
            g.seasons(100);
        }
        if (season % 100 > 0) {
            g.seasons(season % 100);
        }
        return g;
    }

    private void whoseSeason() {
        b.sentence("A SEASON: each CUT that is neither ROOTED nor FELLED, by numbers, with a DRAW (x, v, f asked "
            + "ahead): by x it is FELLED.");
        GrownInitials g = Due.common("0,0:A;0,0:B;0,0:C", "f99(c=0&s=1);x(c=1&s=1)");
        g.seasons(1);
        int x = next(next(next(1)));
        b.is("three DRAWS", g.count(7), x);
        g.seasons(1);
        x = next(next(next(x)));
        b.is("three DRAWS, the last of two", g.count(7), x);
        b.is("ROOTED", g.cutIs(0, 11), 3);
        b.is("FELLED", g.cutIs(1, 11), 4);
        g.seasons(1);
        x = next(x);
        b.is("one DRAW", g.count(7), x);
        Due.law(g, "x(c=0);f9(c=1);v5(1=1);x(c=2)");
        g.seasons(1);
        b.is("one DRAW of one that is FELLED", g.count(7), next(x));
        b.is("ROOTED stays", g.cutIs(0, 11), 3);
        b.is("MEMORY of one FELLED stays", g.cutIs(1, 9), 99);
        g.seasons(1);
        b.is("no DRAW", g.count(7), next(x));
        b.is("a season of none", g.count(0), 5);
        byNumbers();
        askedAhead();
    }

    private void byNumbers() {
        GrownInitials g = Due.common("0,0:A;2,0:B");
        g.home(0, 2, 0);
        g.home(1, 2, 1);
        g.seasons(2);
        Due.law(g, "v2(c=0);v0(c=1);x(c=1&n=1);x(c=0&n=1)");
        b.is("the lower one has come ahead of the higher one", g.tried(1, 2), 2);
    }

    private void askedAhead() {
        GrownInitials g = Due.common("0,0:A");
        g.home(0, 1, 0);
        g.seasons(2);
        Due.law(g, "x(k=1)");
        b.is("x ahead of the call", g.tried(1, 2), 0);
        b.is("x behind the call", g.tried(2, 2), 1);
        Due.law(g, "f40(k=0);f50(k=1)");
        b.is("f ahead of the call", g.tried(1, 40), 59);
        b.is("f behind the call", g.tried(2, 40), 9);
        Due.law(g, "v1(d=1);v0(1=1)");
        b.is("v ahead of the steps", g.tried(1, 20), 1);
        g = Due.common("0,0:A", "x(s=0);f9(1=1)");
        g.seasons(1);
        b.is("FELLED while GROWING", g.cutIs(0, 11), 4);
        b.is("MEMORY is not less", g.cutIs(0, 9), 99);
    }

    private void growing() {
        b.sentence("Else: GROWING, it is UP; UP, it is ABOUT; ABOUT, it goes v steps (of one CROSSED OUT half as many, "
            + "rounded down; then of one with an ARROW one more) to where it goes (HOME, or BACK to its TREE), one by "
            + "one, across first, then along;");
        GrownInitials g = Due.common("0,0:A", "v9(1=1)");
        g.home(0, 9, 0);
        b.is("UP", g.tried(1, 60), 1);
        b.is("no step while GROWING", g.tried(1, 20), 0);
        b.is("ABOUT", g.tried(2, 60), 2);
        b.is("no step while UP", g.tried(2, 20), 0);
        b.is("ABOUT still", g.tried(3, 60), 2);
        b.is("steps", g.tried(3, 20), 9);
    }

    private void goes(String initials, int v, int steps) {
        GrownInitials g = Due.common("0,0:" + initials);
        g.home(0, 23, 0);
        g.seasons(2);
        g.keep();
        Due.law(g, "v" + v + "(1=1)");
        b.is("steps of " + initials + " by v" + v, g.tried(1, 20) - g.cutIs(0, 8), steps);
    }

    private void goingSteps() {
        int[][] of = {{0, 0, 1, 0, 1}, {1, 1, 2, 0, 1}, {2, 2, 3, 1, 2}, {3, 3, 4, 1, 2}, {8, 8, 9, 4, 5}, {9, 9, 10, 4, 5}};
        for (int[] row : of) {
            goes("A", row[0], row[1]);
            goes("A>", row[0], row[2]);
            goes("xA", row[0], row[3]);
            goes("xA>", row[0], row[4]);
        }
        GrownInitials g = Due.common("5,5:A", "v3(1=1)");
        g.home(0, 7, 9);
        g.seasons(2);
        b.is("two across, one along", g.tried(1, 20), 6 * 24 + 7);
        b.is("along", g.tried(2, 20), 9 * 24 + 7);
        g.seasons(2);
        b.is("BACK across first", g.tried(1, 20), 8 * 24 + 5);
        b.is("BACK at its TREE", g.tried(2, 20), 5 * 24 + 5);
        g = Due.common("23,15:A", "v9(1=1)");
        g.home(0, 0, 0);
        g.seasons(2);
        b.is("left", g.tried(1, 20), 15 * 24 + 14);
        b.is("left to the edge, then up", g.tried(3, 20), 11 * 24);
        b.is("not yet behind 36 steps", g.tried(4, 0), 0);
        b.is("there behind 38", g.tried(5, 0), 1);
        b.is("and 7 BACK", g.tried(5, 20), 7);
    }

    private void turning() {
        b.sentence("ahead of the first step and behind each, is it there, it turns: going HOME it has CALLED (CALLS "
            + "one more, MEMORY 99) and goes BACK; going BACK it goes HOME (a step to where it is already goes nowhere).");
        turnsAt(0, 1, 1);
        turnsAt(1, 1, 0);
        turnsAt(2, 2, 1);
        turnsAt(9, 5, 0);
        GrownInitials g = Due.common("0,0:A");
        g.home(0, 3, 0);
        g.seasons(2);
        Due.law(g, "v2(1=1)");
        b.is("one step short", g.tried(1, 0), 0);
        b.is("still going HOME", g.tried(1, 20), 2);
        Due.law(g, "v3(1=1)");
        b.is("just there", g.tried(1, 0), 1);
        b.is("there", g.tried(1, 20), 3);
        Due.law(g, "v4(1=1)");
        b.is("one step BACK", g.tried(1, 20), 2);
        Due.law(g, "v6(1=1)");
        b.is("there and BACK", g.tried(1, 20), 0);
        b.is("one call", g.tried(1, 0), 1);
        g.seasons(1);
        b.is("going HOME again", g.cutIs(0, 12), 0);
        b.is("its TREE is no call", g.cutIs(0, 10), 1);
        Due.law(g, "v9(1=1)");
        b.is("there, BACK, there", g.tried(1, 0), 2);
        b.is("at HOME", g.tried(1, 20), 3);
        aheadOfTheFirst();
    }

    private void turnsAt(int v, int calls, int back) {
        GrownInitials g = Due.common("4,4:A");
        g.seasons(2);
        Due.law(g, "v" + v + "(1=1)");
        b.is("CALLS where HOME is its TREE, by v" + v, g.seasons(1), calls);
        b.is("CALLS", g.cutIs(0, 10), calls);
        b.is("going BACK, by v" + v, g.cutIs(0, 12), back);
        b.is("it goes nowhere", g.cutIs(0, 8), 100);
    }

    private void aheadOfTheFirst() {
        GrownInitials g = Due.common("0,0:A", "f30(s=0);v0(1=1)");
        g.home(0, 5, 0);
        g.seasons(2);
        b.is("not there", g.tried(1, 0), 0);
        b.is("MEMORY", g.tried(1, 40), 69);
        g.home(0, 0, 0);
        b.is("there by home(), ahead of no step", g.tried(1, 0), 1);
        b.is("MEMORY 99", g.tried(1, 40), 99);
        Due.law(g, "f30(1=1);v0(1=1)");
        b.is("MEMORY 99, then f less", g.tried(1, 40), 69);
        b.is("going HOME again: no call", g.tried(2, 0), 1);
        b.is("and MEMORY less", g.tried(2, 40), 39);
    }

    private void forgetting() {
        b.sentence("Then MEMORY is f less (0 at least; in a HEART half as much, rounded down): at 0 it is ROOTED where "
            + "it is (a TREE, too, from then on).");
        GrownInitials g = Due.common("0,0:A;9,9:[B]", "f98(s=0);f1(s=1)");
        g.home(0, 5, 0);
        g.home(1, 5, 5);
        g.seasons(1);
        b.is("MEMORY 1", g.cutIs(0, 9), 1);
        b.is("not ROOTED at 1", g.cutIs(0, 11), 1);
        b.is("in a HEART 49 less", g.cutIs(1, 9), 50);
        g.seasons(1);
        b.is("MEMORY 0", g.cutIs(0, 9), 0);
        b.is("ROOTED at 0", g.cutIs(0, 11), 3);
        b.is("in a HEART half of 1 is 0", g.cutIs(1, 9), 50);
        g = Due.common("0,0:A;9,9:[B];9,9:[C]", "f60(c=0);f99(c=1);f2(c=2)");
        g.home(1, 0, 0);
        b.is("MEMORY 39", g.tried(1, 40), 39);
        b.is("MEMORY 0 at least", g.tried(2, 40), 0);
        b.is("in a HEART of f99", g.tried(1, 41), 50);
        b.is("in a HEART of f99, twice", g.tried(2, 41), 1);
        b.is("not ROOTED at 1 in a HEART", g.tried(2, 61), 2);
        b.is("in a HEART 0 at least", g.tried(3, 41), 0);
        b.is("ROOTED in a HEART", g.tried(3, 61), 3);
        b.is("in a HEART of f2", g.tried(1, 42), 98);
        aTreeFromThenOn();
    }

    private void aTreeFromThenOn() {
        GrownInitials g = Due.common("0,0:A");
        g.home(0, 5, 0);
        g.seasons(4);
        b.is("one TREE", g.trees(), 1);
        b.is("none where it is", g.yard(2, 2, 0, 0), 0);
        Due.law(g, "f99(1=1)");
        g.seasons(1);
        b.is("ROOTED where it is", g.cutIs(0, 8), 3);
        b.is("two TREES", g.trees(), 2);
        b.is("one where it is", g.yard(3, 3, 0, 0), 1);
        g.seasons(100);
        b.is("it stays where it is", g.cutIs(0, 8), 3);
        b.is("two TREES still", g.trees(), 2);
        b.is("MEMORY stays 0", g.cutIs(0, 9), 0);
    }

    private void lastSeason() {
        b.sentence("THE SEASON is one more (9999 at most: then none goes by).");
        GrownInitials g = Due.common("0,0:A");
        g.seasons(1);
        b.is("one more", g.count(0), 1);
        g = inSeason(9998, "0,0:A;5,5:B");
        g.home(1, 5, 6);
        int x = g.count(7);
        b.is("9998", g.count(0), 9998);
        b.is("9999 comes", g.tried(1, 0) > 0, true);
        g.seasons(1);
        b.is("9999", g.count(0), 9999);
        x = next(next(x));
        b.is("its DRAWS", g.count(7), x);
        int calls = g.cutIs(0, 10);
        int place = g.cutIs(1, 8);
        Due.law(g, "x(1=1);f99(1=1);v1(1=1)");
        b.is("no CALLS", g.seasons(1), 0);
        b.is("no CALLS of a hundred", g.seasons(100), 0);
        b.is("9999 at most", g.count(0), 9999);
        b.is("no DRAWS", g.count(7), x);
        b.is("CALLS stay", g.cutIs(0, 10), calls);
        b.is("PLACE stays", g.cutIs(1, 8), place);
        b.is("MEMORY stays", g.cutIs(0, 9), 99);
        b.is("none is FELLED", g.tried(1, 2), 0);
        b.is("none is ROOTED", g.roots(0, 100), -2);
        b.is("ABOUT", g.count(2), 3);
        b.is("tried stays, too", g.tried(100, 21), place);
    }

    private void draws() {
        b.sentence("DRAWS: X = (25173 X + 13849) modulo 65536 (X is THE SEED at first, 1): X modulo 10.");
        GrownInitials g = Due.common("0,0:A", "f10*w(1=1)");
        b.is("X at first", g.count(7), 1);
        b.is("the first DRAW", g.tried(1, 40), 99 - 20);
        g.seasons(1);
        b.is("X behind it", g.count(7), 39022);
        int[][] of = {{0, 13849}, {3915, 0}, {33870, 65535}, {65535, 54212}, {39496, 1}};
        for (int[] row : of) {
            g = Due.common("0,0:A", "f10*w(1=1)");
            g.seed(row[0]);
            b.is("DRAW from " + row[0], g.tried(1, 40), 99 - 10 * (row[1] % 10));
            g.seasons(1);
            b.is("X from " + row[0], g.count(7), row[1]);
        }
    }

    private void triedChangesNothing() {
        b.sentence("TRIED are n SEASONS by the DRAWS that will come (nothing is changed).");
        GrownInitials g = Look.grown(0);
        long place = g.tried(9, 20);
        long memory = g.tried(9, 42);
        b.leavesAll(3, "tried(100, 0)", h -> h.tried(100, 0), g.tried(100, 0));
        b.leavesAll(3, "tried(9, 20)", h -> h.tried(9, 20), place);
        b.leavesAll(3, "meet(0, 1, 100)", h -> h.meet(0, 1, 100), g.meet(0, 1, 100));
        b.leavesAll(3, "roots(0, 100)", h -> h.roots(0, 100), g.roots(0, 100));
        b.leavesAll(3, "strays(0, 100)", h -> h.strays(0, 100), g.strays(0, 100));
        g.seasons(9);
        b.is("PLACE as tried", g.cutIs(0, 8), place);
        b.is("MEMORY as tried", g.cutIs(2, 9), memory);
    }

    private void meetAndRoots() {
        b.sentence("MEET: behind how many of n SEASONS two CUTS that are ABOUT are at one PLACE first. ROOTS: behind "
            + "how many of n SEASONS a CUT is ROOTED first.");
        GrownInitials g = Due.common("0,0:A;0,0:B;4,0:C", "v1(1=1);f33(c=2)");
        g.home(2, 0, 0);
        b.is("at one PLACE, but UP", g.meet(0, 1, 1), -2);
        b.is("at one PLACE, ABOUT", g.meet(0, 1, 2), 2);
        b.is("ROOTED behind three", g.roots(2, 3), 3);
        b.is("not ROOTED behind two", g.roots(2, 2), -2);
        b.is("a ROOTED one does not meet", g.meet(0, 2, 100), -2);
        Due.law(g, "v1(1=1)");
        b.is("met behind four steps", g.meet(0, 2, 6), 6);
        b.is("not met behind three", g.meet(0, 2, 5), -2);
        Due.law(g, "v8(1=1)");
        b.is("met on its way, not behind a season", g.meet(0, 2, 100), -2);
        Due.law(g, "x(c=1&s=2);v1(1=1)");
        b.is("first", g.meet(0, 1, 100), 2);
        g.seasons(3);
        b.is("a FELLED one does not meet", g.meet(0, 1, 100), -2);
        b.is("a FELLED one does not root", g.roots(1, 100), -2);
    }

    private void seasons() {
        b.promise(6);
        b.sentence("SEASONS (1 to 100; as many as can) go by: how many CALLS there were; NONE: no such n.");
        for (int n : WRONG_SPANS) {
            b.leavesAll(2, "seasons(" + n + ")", g -> g.seasons(n), -1);
        }
        GrownInitials g = Due.common("0,0:A", "v0(1=1)");
        b.is("seasons(1)", g.seasons(1), 0);
        b.is("one went by", g.count(0), 1);
        b.is("seasons(100)", g.seasons(100), 50);
        b.is("a hundred more", g.count(0), 101);
        g = inSeason(9950, "0,0:A");
        Due.law(g, "v0(1=1)");
        int calls = g.count(4);
        int came = g.seasons(100);
        b.is("as many as can", g.count(0), 9999);
        b.is("CALLS of forty-nine", came, 25);
        b.is("CALLS there were", g.count(4) - calls, came);
        b.is("a season of no CUTS", new GrownInitials().seasons(100), 0);
    }

    private void tried() {
        b.promise(7);
        b.sentence("SEASONS (1 to 100; as many as can) that are tried, what 0 CALLS in them, 1 ROOTED ones then (bits), "
            + "2 FELLED ones (bits), 20 + c the PLACE (24 Y and X), 40 + c MEMORY, 60 + c 0 to 4 as above of CUT c then; "
            + "NONE: no such ones.");
        for (int n : WRONG_SPANS) {
            b.leavesAll(2, "tried(" + n + ", 0)", g -> g.tried(n, 0), -1);
            b.leavesAll(2, "tried(" + n + ", 20)", g -> g.tried(n, 20), -1);
        }
        for (int what : new int[] {-1, 3, 19, 26, 35, 36, 39, 46, 55, 56, 59, 66, 75, 76, 100, Integer.MIN_VALUE,
            Integer.MIN_VALUE + 19, Integer.MAX_VALUE}) {
            b.leavesAll(2, "tried(1, " + what + ")", g -> g.tried(1, what), -1);
        }
        GrownInitials g = Due.common("0,0:A;".repeat(15) + "23,15:B", "f99(c=15&s=1);x(c=14);v0(1=1)");
        for (int what = -5; what <= 105; what++) {
            boolean isThere = what >= 0 && what <= 2 || what >= 20 && what <= 35 || what >= 40 && what <= 55
                || what >= 60 && what <= 75;
            b.is("tried(1, " + what + ") of sixteen", g.tried(1, what) != -1, isThere);
        }
        b.is("ROOTED: the last one's bit", g.tried(2, 1), 1 << 15);
        b.is("FELLED", g.tried(2, 2), 1 << 14);
        b.is("CALLS of fourteen", g.tried(3, 0), 14);
        b.is("PLACE of the last one", g.tried(1, 35), 383);
        b.is("MEMORY of the last one", g.tried(1, 55), 99);
        b.is("MEMORY of it then", g.tried(2, 55), 0);
        b.is("the last one UP", g.tried(1, 75), 1);
        b.is("the last one ROOTED", g.tried(2, 75), 3);
        b.is("FELLED 4", g.tried(1, 74), 4);
        asManyAsCan();
        GrownInitials none = new GrownInitials();
        b.is("CALLS of no CUTS", none.tried(100, 0), 0);
        b.is("ROOTED of no CUTS", none.tried(1, 1), 0);
        b.is("FELLED of no CUTS", none.tried(1, 2), 0);
        b.is("CUT 0 of no CUTS", none.tried(1, 20), -1);
    }

    private void asManyAsCan() {
        GrownInitials g = inSeason(9990, "0,0:A");
        g.home(0, 23, 15);
        Due.law(g, "v0(1=1);f1(1=1)");
        b.is("nine are left", g.tried(9, 40), g.cutIs(0, 9) - 9);
        b.is("a hundred can't be tried", g.tried(100, 40), g.cutIs(0, 9) - 9);
        b.is("eight can", g.tried(8, 40), g.cutIs(0, 9) - 8);
        b.is("THE SEASON", g.count(0), 9990);
    }

    private void meet() {
        b.promise(9);
        b.sentence("MEET: two unlike CUTS in n SEASONS (1 to 100; 0: now); -2: not in these; NONE: no such ones.");
        for (int n : WRONG_SPANS) {
            b.leavesAll(2, "meet(0, 1, " + n + ")", g -> g.meet(0, 1, n), -1);
        }
        for (int c : WRONG_CUTS) {
            b.leavesAll(2, "meet(" + c + ", 1, 1)", g -> g.meet(c, 1, 1), -1);
            b.leavesAll(2, "meet(1, " + c + ", 1)", g -> g.meet(1, c, 1), -1);
        }
        b.leavesAll(2, "meet(0, 0, 1)", g -> g.meet(0, 0, 1), -1);
        b.leavesAll(2, "meet(5, 5, 100)", g -> g.meet(5, 5, 100), -1);
        GrownInitials g = Due.common("0,0:A;2,0:B;0,0:C", "v2(t=99);v0(1=1)");
        g.home(1, 0, 0);
        b.is("met behind the hundredth", g.meet(0, 1, 100), 100);
        b.is("met the other way", g.meet(1, 0, 100), 100);
        b.is("not in ninety-nine", g.meet(0, 1, 99), -2);
        b.is("not in one", g.meet(0, 2, 1), -2);
        g.seasons(1);
        b.is("behind one", g.meet(0, 2, 1), 1);
        g.seasons(1);
        b.is("now", g.meet(0, 2, 1), 0);
        b.is("now, of a hundred", g.meet(2, 0, 100), 0);
        g = Due.common("0,0:A;".repeat(15) + "0,0:B");
        b.is("the first and the last", g.meet(0, 15, 2), 2);
        b.is("none beyond the last", g.meet(0, 16, 2), -1);
        b.is("two of one alone", Due.common("0,0:A").meet(0, 1, 1), -1);
        g = inSeason(9998, "0,0:A;1,0:B;2,0:C");
        g.home(1, 0, 0);
        g.home(2, 0, 0);
        b.is("in the last season", g.meet(0, 1, 100), 1);
        b.is("too late for the last season", g.meet(0, 2, 100), -2);
    }

    private void roots() {
        b.promise(10);
        b.sentence("ROOTS: a CUT in n SEASONS (1 to 100; 0: it is); -2: not in these; NONE: no such ones.");
        for (int n : WRONG_SPANS) {
            b.leavesAll(2, "roots(0, " + n + ")", g -> g.roots(0, n), -1);
            b.leavesAll(2, "roots(3, " + n + ") of one ROOTED", g -> g.roots(3, n), -1);
        }
        for (int c : WRONG_CUTS) {
            b.leavesAll(2, "roots(" + c + ", 1)", g -> g.roots(c, 1), -1);
        }
        b.leavesAll(2, "roots(3, 1): it is", g -> g.roots(3, 1), 0);
        b.leavesAll(2, "roots(3, 100): it is", g -> g.roots(3, 100), 0);
        b.leavesAll(2, "roots(5, 100) of one FELLED", g -> g.roots(5, 100), -2);
        GrownInitials g = Due.common("0,0:A", "f99(t=99)");
        b.is("behind the hundredth", g.roots(0, 100), 100);
        b.is("not in ninety-nine", g.roots(0, 99), -2);
        Due.law(g, "f99(1=1)");
        b.is("behind the first", g.roots(0, 1), 1);
        Due.law(g, "f98(1=1)");
        b.is("not in one", g.roots(0, 1), -2);
        b.is("in two", g.roots(0, 2), 2);
        b.is("the last of sixteen", Due.common("0,0:A;".repeat(15) + "0,0:B", "f99(c=15)").roots(15, 1), 1);
        g = inSeason(9998, "0,0:A");
        g.home(0, 23, 15);
        Due.law(g, "f99-[1-[t-98]*[t-98]](1=1);v0(1=1)");
        b.is("98 of 99 in the last season, then none", g.roots(0, 100), -2);
        Due.law(g, "f99(1=1);v0(1=1)");
        b.is("in the last season", g.roots(0, 100), 1);
    }

    private void strays() {
        b.part("Terms");
        b.sentence("STRAYS: the most steps from its TREE at which a CUT is at the end of any of n SEASONS that are "
            + "tried.");
        GrownInitials g = Due.common("0,0:A", "v5(1=1)");
        g.home(0, 6, 0);
        b.is("five, then two on the way BACK", g.strays(0, 4), 5);
        b.is("the end of the first alone", g.strays(0, 3), 5);
        b.is("at HOME behind six times five steps", g.strays(0, 8), 6);
        g = Due.common("0,0:A", "v9(1=1)");
        g.home(0, 23, 15);
        b.is("thirty-six", g.strays(0, 6), 36);
        Due.law(g, "v2(t=6);v9(1=1)");
        b.is("the most there can be", g.strays(0, 7), 38);
        b.promise(15);
        b.sentence("STRAYS: a CUT in n SEASONS (1 to 100): steps; NONE: no such ones.");
        for (int n : WRONG_SPANS) {
            b.leavesAll(2, "strays(0, " + n + ")", h -> h.strays(0, n), -1);
        }
        for (int c : WRONG_CUTS) {
            b.leavesAll(2, "strays(" + c + ", 1)", h -> h.strays(c, 1), -1);
        }
        g = Due.common("0,0:A", "v5(t=99);v0(1=1)");
        g.home(0, 6, 0);
        b.is("behind the hundredth", g.strays(0, 100), 5);
        b.is("in ninety-nine", g.strays(0, 99), 0);
        b.is("in one", g.strays(0, 1), 0);
        g = Due.common("0,0:A;".repeat(15) + "0,0:B", "v7(1=1)");
        g.home(15, 0, 7);
        b.is("the last of sixteen", g.strays(15, 3), 7);
        g = inSeason(9997, "0,0:A");
        g.home(0, 5, 0);
        g.seasons(1);
        b.is("the last season alone is tried", g.strays(0, 100), 2);
        g.seasons(1);
        b.is("it is two steps from its TREE", g.cutIs(0, 8), 2);
        b.is("no season is tried behind the last", g.strays(0, 100), 0);
    }

    private void seed() {
        b.promise(28);
        b.sentence("THE SEED (0 to 65535; X, too): true; false: no such number.");
        for (int x : new int[] {-1, 65536, Integer.MIN_VALUE, Integer.MAX_VALUE, -65536, 131072}) {
            b.leavesAll(2, "seed(" + x + ")", g -> g.seed(x) ? 1 : 0, 0);
        }
        GrownInitials g = Due.common("0,0:A");
        b.is("seed(0)", g.seed(0), true);
        b.is("X 0", g.count(7), 0);
        b.is("seed(65535)", g.seed(65535), true);
        b.is("X 65535", g.count(7), 65535);
        g.seasons(1);
        b.is("X from there on", g.count(7), 54212);
        b.is("seed(65536)", g.seed(65536), false);
        b.is("X stays", g.count(7), 54212);
    }
}
