/** Promises 29 to 31: keeping, undoing and checking. */
public final class KeepTest {
    private static final Due DUE = new Due("KeepTest");

    public static void main(String[] args) {
        keepAndUndo();
        barkBetween();
        check();
        DUE.end();
    }

    private static long standing(GrownInitials g) {
        long sum = g.count(0) + 31L * g.count(7);
        for (int c = 0; c < g.count(1); c++) {
            for (int what = 8; what <= 12; what++) {
                sum = 1009 * sum + g.cutIs(c, what);
            }
        }
        return sum;
    }

    private static void keepAndUndo() {
        GrownInitials g = Due.common("0,0:A;3,3:B;9,9:[C]", "f10+w(c<2);x(c=2&w=7)");
        g.home(0, 2, 0);
        g.home(1, 0, 0);
        DUE.is("undo of none", g.undo(), false);
        g.seasons(3);
        DUE.is("keep()", g.keep(), 3);
        long kept = standing(g);
        g.seasons(20);
        DUE.is("all is changed", standing(g) != kept, true);
        g.home(0, 5, 5);
        Due.law(g, "v9(1=1)");
        g.feed(0, 0, 0, 0, 0);
        DUE.is("undo()", g.undo(), true);
        DUE.is("as it was", standing(g), kept);
        DUE.is("HOME is not kept", g.cutIs(0, 7), 125);
        DUE.is("the law is not kept", g.count(5), 1);
        DUE.is("the tape is not kept", g.count(6), 20);
        g.seasons(5);
        g.seed(77);
        DUE.is("undo() again", g.undo(), true);
        DUE.is("as it was again", standing(g), kept);
        g.seasons(1);
        DUE.is("keep() again", g.keep(), 4);
        kept = standing(g);
        g.seasons(1);
        g.undo();
        DUE.is("as it was KEPT last", standing(g), kept);
    }

    private static void barkBetween() {
        GrownInitials g = Due.common("0,0:A;5,5:B;9,9:C");
        g.home(0, 4, 0);
        g.seasons(4);
        g.keep();
        Due.bark(g, "1,1:D");
        DUE.is("undo() of fewer", g.undo(), true);
        DUE.is("one CUT", g.count(1), 1);
        DUE.is("its TREE", g.cutIs(0, 0), 25);
        DUE.is("its PLACE", g.cutIs(0, 8), 2);
        DUE.is("ABOUT", g.count(2), 1);
        Due.bark(g, "1,1:D;2,2:E;3,3:F;4,4:G");
        g.seasons(1);
        DUE.is("undo() of more", g.undo(), true);
        DUE.is("those KEPT", g.count(2), 7);
        DUE.is("the fourth stays", g.cutIs(3, 11), 1);
        DUE.is("the third", g.cutIs(2, 8), 225);
        DUE.is("season", g.count(0), 4);
    }

    private static void checked(GrownInitials g, int due, int... bytes) {
        Due.feed(g, bytes);
        DUE.is("check of " + java.util.Arrays.toString(bytes), g.check(bytes.length), due);
        DUE.is("tape", g.count(6), 0);
    }

    private static void check() {
        GrownInitials g = Due.common("0,0:A;5,5:[B];9,9:C", "f10*[c+1](1=1)");
        g.home(0, 9, 9);
        g.home(1, 9, 9);
        g.home(2, 0, 0);
        g.seasons(1);
        checked(g, -1, 89, 89, 69);
        checked(g, -1, 89);
        checked(g, -1, 89, 89, 69, 255, 255, 255, 255, 255, 255, 255, 255, 255, 255, 255, 255, 255);
        checked(g, 0, 88, 88, 69);
        checked(g, 1, 89, 88, 68);
        checked(g, 3, 89, 89, 69, 0);
        checked(g, 15, 89, 89, 69, 255, 255, 255, 255, 255, 255, 255, 255, 255, 255, 255, 255, 99);
        DUE.is("check(0) of no tape", g.check(0), -1);
        DUE.is("check(1) of no tape", g.check(1), -2);
        g.feed(0, 0, 0, 0, 0);
        DUE.is("check(17)", g.check(17), -2);
        DUE.is("check(-1)", g.check(-1), -2);
        DUE.is("tape stays", g.count(6), 20);
        DUE.is("check(0)", g.check(0), -1);
        DUE.is("tape is empty", g.count(6), 0);
    }
}
