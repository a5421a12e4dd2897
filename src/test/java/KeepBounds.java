import java.util.function.ToLongFunction;

/** Bounds of promises 1, 29, 30 and 32, of an object's life, and of calls that are refused. */
final class KeepBounds {
    private static final String FOUR = "0,0:A;5,5:B;9,9:C;3,3:D";

    private final Bounds b;

    KeepBounds(Bounds b) {
        this.b = b;
    }

    void ask() {
        life();
        none();
        newObject();
        kept();
        undoneOfOthers();
        keep();
        undo();
        count();
        refused();
    }

    private void life() {
        b.part("What it is");
        b.sentence("An object is used for at most 512 calls after it has been made; what later calls answer is free.");
        GrownInitials g = Due.common("0,0:A", "v0(1=1)");
        int made = 4;
        for (int call = made + 1; call <= 509; call++) {
            b.is("call " + call, g.count(0), 0);
        }
        b.is("call 510", g.keep(), 0);
        b.is("call 511", g.seasons(3), 1);
        b.is("call 512", g.cutIs(0, 10), 1);
        for (int call = 513; call < 2000; call++) {
            g.feed(call, call, call, call, call);
            g.seasons(100);
            g.law(call % 300);
            g.bark(call % 200);
            g.undo();
        }
        b.is("calls behind the 512th end", true, true);
    }

    private void none() {
        b.part("Terms");
        b.sentence("The constants: `NONE = -1`: There is none.");
        b.is("NONE", GrownInitials.NONE, -1);
    }

    private void newObject() {
        b.promise(1);
        b.sentence("No CUTS, LAW; THE SEED 1.");
        GrownInitials g = new GrownInitials();
        b.is("CUTS", g.count(1), 0);
        b.is("RULES", g.count(5), 0);
        b.is("X", g.count(7), 1);
        b.is("THE SEASON", g.count(0), 0);
        b.is("the tape", g.count(6), 0);
        b.is("ABOUT", g.count(2), 0);
        b.is("ROOTED", g.count(3), 0);
        b.is("CALLS", g.count(4), 0);
        b.is("none KEPT", g.undo(), false);
        for (int c = 0; c < 16; c++) {
            b.is("CUT " + c, g.cutIs(c, 0), -1);
        }
        b.is("seasons of no CUTS", g.seasons(100), 0);
        b.is("a hundred went by", g.count(0), 100);
        b.is("no DRAWS for none", g.count(7), 1);
        twoObjects();
    }

    private void twoObjects() {
        b.part("Terms");
        b.sentence("All memory is the common's own.");
        GrownInitials one = Due.common("0,0:A", "v9(1=1)");
        GrownInitials other = Due.common(FOUR, "f9(1=1);x(1=2)");
        one.keep();
        other.feed(0, 0, 0, 0, 0);
        other.seasons(5);
        int[] due = {0, 1, 0, 0, 0, 1, 0, 1};
        for (int what = 0; what < due.length; what++) {
            b.is("count(" + what + ") of the one", one.count(what), due[what]);
        }
        b.is("MEMORY of the one", one.cutIs(0, 9), 99);
        b.is("the other has none KEPT", other.undo(), false);
    }

    private void kept() {
        b.part("Terms");
        b.sentence("KEPT: CUTS' states, PLACES, MEMORY, CALLS, ways, THE SEASON, X; UNDONE: as they were KEPT last");
        GrownInitials g = Due.common("0,0:A;5,0:B;9,0:C", "v2(1=1);f5(1=1);x(c=2&s=2)");
        g.home(0, 2, 0);
        g.home(1, 0, 0);
        g.seasons(3);
        int[][] then = new int[3][5];
        for (int c = 0; c < 3; c++) {
            for (int what = 8; what <= 12; what++) {
                then[c][what - 8] = g.cutIs(c, what);
            }
        }
        int x = g.count(7);
        g.keep();
        g.seasons(50);
        g.home(0, 9, 9);
        g.seed(5);
        Due.law(g, "f1(1=1)");
        g.feed(0, 0, 0, 0, 0);
        for (int go = 0; go < 2; go++) {
            b.is("undo()", g.undo(), true);
            for (int c = 0; c < 3; c++) {
                for (int what = 8; what <= 12; what++) {
                    b.is("cutIs(" + c + ", " + what + ")", g.cutIs(c, what), then[c][what - 8]);
                }
            }
            b.is("THE SEASON", g.count(0), 3);
            b.is("X", g.count(7), x);
            b.is("HOME is not KEPT", g.cutIs(0, 7), 225);
            b.is("THE LAW is not KEPT", g.count(5), 1);
            b.is("the tape is not KEPT", g.count(6), 20);
            g.seasons(7);
        }
        g.keep();
        g.seasons(1);
        g.undo();
        b.is("KEPT last", g.count(0), 10);
    }

    private void undoneOfOthers() {
        b.sentence("(of CUTS told since by BARK: of as many as there were then and are now).");
        GrownInitials g = Due.common("0,0:A;5,5:B");
        g.seasons(2);
        g.keep();
        Due.bark(g, FOUR);
        b.is("undo() with more", g.undo(), true);
        b.is("four CUTS", g.count(1), 4);
        b.is("the two that were KEPT", g.count(2), 0b0011);
        b.is("a third is as it is", g.cutIs(2, 8), 225);
        Due.bark(g, "7,7:A");
        b.is("undo() with fewer", g.undo(), true);
        b.is("one CUT", g.count(1), 1);
        b.is("its state", g.cutIs(0, 11), 2);
        b.is("its PLACE as KEPT", g.cutIs(0, 8), 0);
        b.is("its TREE as told", g.cutIs(0, 0), 175);
        b.is("the second one is none", g.cutIs(1, 8), -1);
        Due.bark(g, FOUR);
        b.is("all as at first", g.count(2), 0);
        b.is("undo() once more: two were KEPT", g.undo(), true);
        b.is("two of them", g.count(2), 0b0011);
        b.is("PLACE of the second one", g.cutIs(1, 8), 125);
        GrownInitials none = new GrownInitials();
        none.seasons(4);
        none.keep();
        Due.bark(none, FOUR);
        none.seasons(3);
        b.is("undo() where none were", none.undo(), true);
        b.is("THE SEASON", none.count(0), 4);
        b.is("X", none.count(7), 1);
        b.is("the CUTS stay", none.count(2), 15);
    }

    private void keep() {
        b.promise(29);
        b.sentence("KEPT: THE SEASON.");
        GrownInitials g = new GrownInitials();
        b.is("keep() of a new one", g.keep(), 0);
        g.seasons(1);
        b.is("keep() behind one", g.keep(), 1);
        for (int i = 0; i < 100; i++) {
            g.seasons(100);
        }
        b.is("keep() behind the last", g.keep(), 9999);
        b.is("undo() of the last", g.undo(), true);
        b.is("THE SEASON", g.count(0), 9999);
    }

    private void undo() {
        b.promise(30);
        b.sentence("UNDONE: true; false: none was KEPT.");
        GrownInitials g = Due.common(FOUR, "f9(1=1)");
        g.seasons(3);
        int memory = g.cutIs(0, 9);
        b.is("none was KEPT", g.undo(), false);
        b.is("THE SEASON stays", g.count(0), 3);
        b.is("MEMORY stays", g.cutIs(0, 9), memory);
        b.is("ABOUT stay", g.count(2), 15);
        int x = g.count(7);
        b.is("none was KEPT still", g.undo(), false);
        b.is("X stays", g.count(7), x);
        g.keep();
        b.is("one was KEPT", g.undo(), true);
        b.is("and is KEPT still", g.undo(), true);
        b.is("a KEPT one of no CUTS", keptNew().undo(), true);
    }

    private static GrownInitials keptNew() {
        GrownInitials g = new GrownInitials();
        g.keep();
        return g;
    }

    private void count() {
        b.promise(32);
        b.sentence("0 THE SEASON, 1 CUTS, 2 those ABOUT (bits), 3 ROOTED ones (bits), 4 CALLS of all, 5 RULES, 6 bytes of "
            + "the tape, 7 X. NONE for others.");
        for (int what : new int[] {-1, 8, 100, Integer.MIN_VALUE, Integer.MAX_VALUE}) {
            b.leavesAll(2, "count(" + what + ")", g -> g.count(what), -1);
        }
        GrownInitials g = Due.common("0,0:A;".repeat(15) + "0,0:B", "v0(1=1)");
        g.seasons(3);
        int x = 1;
        for (int i = 0; i < 48; i++) {
            x = (25173 * x + 13849) % 65536;
        }
        int[] due = {3, 16, 65535, 0, 16, 1, 0, x};
        for (int what = 0; what <= 7; what++) {
            b.is("count(" + what + ")", g.count(what), due[what]);
        }
        Due.law(g, "f99(1=1);v0(1=1)");
        g.seasons(1);
        g.feed(0, 0, 0, 0, 0);
        b.is("none ABOUT", g.count(2), 0);
        b.is("all ROOTED", g.count(3), 65535);
        b.is("two RULES", g.count(5), 2);
        b.is("twenty bytes", g.count(6), 20);
        b.is("CALLS of all stay", g.count(4), 16);
        g.seed(65535);
        b.is("X", g.count(7), 65535);
    }

    private void stays(String call, ToLongFunction<GrownInitials> ask, long answer) {
        for (int feeds : new int[] {0, 1, 8, 13}) {
            b.leavesAll(feeds, call + " of " + 20 * feeds + " bytes", ask, answer);
        }
    }

    private void refused() {
        b.part("Terms");
        b.sentence("A call that is refused (NONE, false) changes nothing but the tape, where it is told.");
        stays("home(6, 1, 1)", g -> g.home(6, 1, 1) ? 1 : 0, 0);
        b.leavesAll(13, "feed(1, 2, 3, 4, 5)", g -> g.feed(1, 2, 3, 4, 5), -1);
        stays("law(0)", g -> g.law(0), -1);
        stays("law(241)", g -> g.law(241), -1);
        stays("bark(0)", g -> g.bark(0), -1);
        stays("bark(161)", g -> g.bark(161), -1);
        stays("seasons(0)", g -> g.seasons(0), -1);
        stays("seasons(101)", g -> g.seasons(101), -1);
        stays("tried(101, 0)", g -> g.tried(101, 0), -1);
        stays("tried(1, 3)", g -> g.tried(1, 3), -1);
        stays("cutIs(0, 13)", g -> g.cutIs(0, 13), -1);
        stays("meet(0, 0, 1)", g -> g.meet(0, 0, 1), -1);
        stays("roots(6, 1)", g -> g.roots(6, 1), -1);
        stays("single(2)", g -> g.single(2), -1);
        stays("who(16)", g -> g.who(16), -1);
        stays("nearest(0, 2)", g -> g.nearest(0, 2), -1);
        stays("strays(0, 101)", g -> g.strays(0, 101), -1);
        stays("dates(3)", g -> g.dates(3), -1);
        stays("busiest(2)", g -> g.busiest(2), -1);
        stays("yard(0, 24, 0, 0)", g -> g.yard(0, 24, 0, 0), -1);
        stays("groups(39, 100)", g -> g.groups(39, 100), -1);
        stays("fence(2)", g -> g.fence(2), -1);
        stays("round(64, 0)", g -> g.round(64, 0), -1);
        stays("words(61, 0)", g -> g.words(61, 0), -1);
        stays("marriages(7, 100)", g -> g.marriages(7, 100), -1);
        stays("orders(11, 1, 100)", g -> g.orders(11, 1, 100), -1);
        stays("seed(65536)", g -> g.seed(65536) ? 1 : 0, 0);
        stays("check(17)", g -> g.check(17), -2);
        stays("count(8)", g -> g.count(8), -1);
    }
}
