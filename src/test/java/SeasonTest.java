/** Promises 6, 7, 9, 10, 13, 15 and 28: seasons, what is tried, who meets, who roots, draws. */
public final class SeasonTest {
    private static final Due DUE = new Due("SeasonTest");

    public static void main(String[] args) {
        wrongNumbers();
        goingAbout();
        homeIsTree();
        forgetting();
        forgettingWhileGrowing();
        felling();
        draws();
        triedChangesNothing();
        meet();
        roots();
        strays();
        letters();
        lastSeason();
        mostCalls();
        DUE.end();
    }

    private static void wrongNumbers() {
        GrownInitials g = Due.common("0,0:A;1,1:B");
        int[] wrong = {0, -1, 101, Integer.MAX_VALUE, Integer.MIN_VALUE};
        for (int n : wrong) {
            DUE.is("seasons " + n, g.seasons(n), -1);
            DUE.is("tried " + n, g.tried(n, 0), -1);
            DUE.is("meet " + n, g.meet(0, 1, n), -1);
            DUE.is("roots " + n, g.roots(0, n), -1);
            DUE.is("strays " + n, g.strays(0, n), -1);
        }
        int[] wrongWhats = {-1, 3, 19, 22, 35, 36, 39, 42, 59, 62, 75, 76, 100, Integer.MAX_VALUE, Integer.MIN_VALUE};
        for (int what : wrongWhats) {
            DUE.is("tried what " + what, g.tried(1, what), -1);
        }
        int[] wrongCuts = {-1, 2, 16, Integer.MAX_VALUE, Integer.MIN_VALUE};
        for (int c : wrongCuts) {
            DUE.is("meet " + c, g.meet(c, 0, 1), -1);
            DUE.is("meet with " + c, g.meet(0, c, 1), -1);
            DUE.is("roots " + c, g.roots(c, 1), -1);
            DUE.is("strays " + c, g.strays(c, 1), -1);
        }
        DUE.is("meet itself", g.meet(1, 1, 1), -1);
        DUE.is("no season went by", g.count(0), 0);
        DUE.is("seasons(100)", g.seasons(100) >= 0, true);
        DUE.is("a hundred went by", g.count(0), 100);
        DUE.is("seed(-1)", g.seed(-1), false);
        DUE.is("seed(65536)", g.seed(65536), false);
        DUE.is("seed(65535)", g.seed(65535), true);
        DUE.is("X", g.count(7), 65535);
        DUE.is("seed(0)", g.seed(0), true);
        DUE.is("X", g.count(7), 0);
    }

    private static void goingAbout() {
        GrownInitials g = Due.common("5,5:A", "v2(1=1)");
        g.home(0, 2, 6);
        DUE.is("season 1", g.seasons(1), 0);
        DUE.is("UP", g.cutIs(0, 11), 1);
        DUE.is("season 2", g.seasons(1), 0);
        DUE.is("ABOUT", g.cutIs(0, 11), 2);
        DUE.is("at its tree", g.cutIs(0, 8), 125);
        g.seasons(1);
        DUE.is("across first", g.cutIs(0, 8), 5 * 24 + 3);
        DUE.is("season 4", g.seasons(1), 1);
        DUE.is("then along", g.cutIs(0, 8), 6 * 24 + 2);
        DUE.is("CALLS", g.cutIs(0, 10), 1);
        DUE.is("BACK", g.cutIs(0, 12), 1);
        g.seasons(2);
        DUE.is("across first, too", g.cutIs(0, 8), 5 * 24 + 5);
        DUE.is("HOME again", g.cutIs(0, 12), 0);
        DUE.is("CALLS stay", g.cutIs(0, 10), 1);
        Due.law(g, "v9(1=1)");
        DUE.is("there and back", g.tried(1, 0), 1);
        DUE.is("four there, four back, one more", g.tried(1, 20), 5 * 24 + 4);
    }

    private static void homeIsTree() {
        GrownInitials g = Due.common("5,5:A;5,5:B>;5,5:xC", "v4(1=1)");
        g.seasons(2);
        DUE.is("turns ahead of four steps and behind each", g.seasons(1), 3 + 3 + 2);
        DUE.is("A BACK", g.cutIs(0, 12), 1);
        DUE.is("B HOME", g.cutIs(1, 12), 0);
        DUE.is("C BACK", g.cutIs(2, 12), 1);
        DUE.is("A stays", g.cutIs(0, 8), 125);
        Due.law(g, "v0(1=1)");
        DUE.is("ahead of no steps, too", g.seasons(2), 1 + 2 + 1);
    }

    private static void forgetting() {
        GrownInitials g = Due.common("0,0:A;9,0:[B];0,9:C");
        g.home(0, 23, 15);
        g.home(1, 23, 15);
        g.seasons(2);
        Due.law(g, "f33(c<2);v3(1=1)");
        DUE.is("33 less", g.tried(1, 40), 66);
        DUE.is("16 less in a heart", g.tried(1, 41), 83);
        DUE.is("ROOTED bits", g.tried(3, 1), 1);
        g.seasons(3);
        DUE.is("ROOTED", g.cutIs(0, 11), 3);
        DUE.is("where it is", g.cutIs(0, 8), 9);
        DUE.is("MEMORY", g.cutIs(0, 9), 0);
        DUE.is("a tree on a tree", g.trees(), 3);
        Due.law(g, "f1(1=1)");
        g.seasons(1);
        DUE.is("in a heart half of 1", g.cutIs(1, 9), 99 - 48);
        DUE.is("ROOTED stays", g.cutIs(0, 8), 9);
        g = Due.common("0,0:A", "f98(1=1)");
        g.home(0, 0, 1);
        g.seasons(1);
        DUE.is("1 left", g.cutIs(0, 9), 1);
        g = Due.common("0,0:A");
        g.home(0, 0, 1);
        g.seasons(2);
        Due.law(g, "f99(1=1)");
        g.seasons(1);
        DUE.is("CALLED and forgotten", g.cutIs(0, 10), 1);
        DUE.is("CALLED and ROOTED", g.cutIs(0, 11), 3);
        DUE.is("a new tree", g.trees(), 2);
    }

    private static void forgettingWhileGrowing() {
        GrownInitials g = Due.common("0,0:A", "f60(1=1)");
        g.seasons(1);
        DUE.is("UP", g.cutIs(0, 11), 1);
        DUE.is("MEMORY lost while GROWING", g.cutIs(0, 9), 39);
        g.seasons(1);
        DUE.is("ROOTED while UP", g.cutIs(0, 11), 3);
        DUE.is("never ABOUT", g.letters(), 0);
    }

    private static void felling() {
        GrownInitials g = Due.common("0,0:A;1,0:B", "x(c=1);f9(1=1)");
        DUE.is("FELLED bits", g.tried(1, 2), 2);
        g.seasons(1);
        DUE.is("FELLED", g.cutIs(1, 11), 4);
        DUE.is("its MEMORY stays", g.cutIs(1, 9), 99);
        DUE.is("the other one", g.cutIs(0, 11), 1);
        Due.law(g, "f9(1=1)");
        g.seasons(1);
        DUE.is("FELLED stays", g.cutIs(1, 11), 4);
        DUE.is("its MEMORY stays still", g.cutIs(1, 9), 99);
        DUE.is("its tree stays a tree", g.trees(), 2);
        g = Due.common("0,0:A", "x(s=2&n=0)");
        g.seasons(2);
        DUE.is("not yet", g.cutIs(0, 11), 2);
        g.seasons(1);
        DUE.is("asked ahead", g.cutIs(0, 11), 4);
        DUE.is("it did not call", g.cutIs(0, 10), 0);
    }

    private static void draws() {
        GrownInitials g = Due.common("0,0:A;1,0:B;2,0:C");
        int x = 1;
        for (int season = 0; season < 4; season++) {
            g.seasons(1);
            for (int c = 0; c < 3; c++) {
                x = (25173 * x + 13849) % 65536;
            }
            DUE.is("X in season " + season, g.count(7), x);
        }
        Due.law(g, "x(c=1)");
        g.seasons(1);
        for (int c = 0; c < 3; c++) {
            x = (25173 * x + 13849) % 65536;
        }
        DUE.is("X with the one FELLED", g.count(7), x);
        g.seasons(1);
        for (int c = 0; c < 2; c++) {
            x = (25173 * x + 13849) % 65536;
        }
        DUE.is("X without the one FELLED", g.count(7), x);
        g.seed(65535);
        g.tried(50, 0);
        DUE.is("tried draws nothing", g.count(7), 65535);
        g.seasons(1);
        x = (25173 * 65535 + 13849) % 65536;
        x = (25173 * x + 13849) % 65536;
        DUE.is("X from 65535", g.count(7), x);
    }

    private static void triedChangesNothing() {
        GrownInitials g = Due.common("0,0:A;3,3:[B]>;9,9:xC", "f5+w(1=1);v1+w/2(1=1);x(w=9&t>5)");
        g.home(0, 4, 4);
        g.home(1, 0, 0);
        g.home(2, 9, 8);
        int[] due = new int[16];
        for (int n = 1; n <= 15; n++) {
            due[n] = g.tried(n, 20) + 1000 * g.tried(n, 41) + 100000 * g.tried(n, 62);
            g.tried(n, 0);
            g.meet(0, 1, n);
            g.roots(0, n);
            g.strays(0, n);
        }
        DUE.is("season", g.count(0), 0);
        DUE.is("X", g.count(7), 1);
        int calls = g.tried(15, 0);
        int rooted = g.tried(15, 1);
        int gone = 0;
        for (int n = 1; n <= 15; n++) {
            gone += g.seasons(1);
            DUE.is("as tried " + n, g.cutIs(0, 8) + 1000 * g.cutIs(1, 9) + 100000 * g.cutIs(2, 11), due[n]);
        }
        DUE.is("calls as tried", gone, calls);
        DUE.is("rooted as tried", g.count(3), rooted);
    }

    private static void meet() {
        GrownInitials g = Due.common("0,0:A;6,0:B;0,0:C;0,0:D");
        g.home(0, 6, 0);
        g.home(1, 0, 0);
        DUE.is("meet", g.meet(0, 1, 100), 5);
        DUE.is("meet the other way", g.meet(1, 0, 5), 5);
        DUE.is("meet too late", g.meet(0, 1, 4), -2);
        DUE.is("both in one tree, not ABOUT yet", g.meet(2, 3, 1), -2);
        DUE.is("as soon as they are", g.meet(2, 3, 9), 2);
        g.seasons(2);
        DUE.is("now", g.meet(2, 3, 1), 0);
        DUE.is("now, too", g.meet(0, 2, 100), 0);
        Due.law(g, "f99(c=2)");
        g.home(2, 9, 9);
        g.seasons(1);
        DUE.is("ROOTED ones meet none", g.meet(1, 2, 100), -2);
        g = Due.common("0,0:A;1,0:B");
        g.home(0, 1, 0);
        g.home(1, 0, 0);
        DUE.is("those that pass one another do not meet", g.meet(0, 1, 100), -2);
    }

    private static void roots() {
        GrownInitials g = Due.common("0,0:A;0,0:[B]", "f10(1=1)");
        g.home(0, 23, 15);
        g.home(1, 23, 15);
        DUE.is("roots", g.roots(0, 100), 10);
        DUE.is("roots in a heart", g.roots(1, 100), 20);
        DUE.is("roots just", g.roots(0, 10), 10);
        DUE.is("roots not in these", g.roots(0, 9), -2);
        g.seasons(10);
        DUE.is("it is", g.roots(0, 1), 0);
        DUE.is("in ten more", g.roots(1, 100), 10);
        Due.law(g, "x(c=1)");
        DUE.is("a FELLED one never", g.roots(1, 100), -2);
    }

    private static void strays() {
        GrownInitials g = Due.common("5,5:A", "v3(1=1)");
        g.home(0, 9, 9);
        DUE.is("not ABOUT", g.strays(0, 2), 0);
        DUE.is("one", g.strays(0, 3), 3);
        DUE.is("two", g.strays(0, 4), 6);
        DUE.is("three: there and one back", g.strays(0, 5), 7);
        g.seasons(5);
        DUE.is("from now on", g.strays(0, 1), 4);
        DUE.is("nearer first, then far again", g.strays(0, 100), 8);
    }

    private static void letters() {
        GrownInitials g = Due.common("0,0:AB;0,0:A&P;0,0:C&;0,0:D", "x(c=3&s=1);f99(c=2&s=1)");
        DUE.is("none", g.letters(), 0);
        g.seasons(1);
        DUE.is("none UP", g.letters(), 0);
        g.seasons(1);
        DUE.is("letters of those ABOUT", g.letters(), 0x8003);
    }

    private static void lastSeason() {
        GrownInitials g = Due.common("0,0:A;1,1:B");
        g.home(0, 5, 0);
        for (int i = 0; i < 99; i++) {
            g.seasons(100);
        }
        g.seasons(98);
        DUE.is("season", g.count(0), 9998);
        g.keep();
        DUE.is("t is 98", Due.law(g, "x(t=98)"), 1);
        DUE.is("one more", g.tried(100, 2), 3);
        Due.law(g, "f1(1=1)");
        int x = g.count(7);
        DUE.is("only one goes by", g.tried(100, 40), g.tried(1, 40));
        g.seasons(100);
        DUE.is("the last", g.count(0), 9999);
        DUE.is("two draws", g.count(7), (25173 * ((25173 * x + 13849) % 65536) + 13849) % 65536);
        int place = g.cutIs(0, 8);
        DUE.is("none goes by", g.seasons(1), 0);
        DUE.is("still", g.count(0), 9999);
        DUE.is("place stays", g.cutIs(0, 8), place);
        DUE.is("none is tried", g.tried(100, 20), place);
        DUE.is("no call is tried", g.tried(100, 0), 0);
        DUE.is("no roots", g.roots(0, 100), -2);
        DUE.is("none strays", g.strays(0, 100), 0);
        DUE.is("undo", g.undo(), true);
        DUE.is("season", g.count(0), 9998);
    }

    private static void mostCalls() {
        GrownInitials g = Due.common("0,0:A>", "v9(1=1)");
        int calls = 0;
        for (int i = 0; i < 20; i++) {
            calls += g.seasons(100);
        }
        DUE.is("CALLS there were", calls, (1998 * 11 + 1) / 2);
        DUE.is("CALLS 9999 at most", g.cutIs(0, 10), 9999);
        DUE.is("of all", g.count(4), 9999);
        Due.law(g, "f50(k=9999)");
        DUE.is("k", g.tried(1, 40), 49);
    }
}
