/** Bounds of promises 18 to 24: yards, groups, fences, crossings, paths, trees and rounds. */
final class PlaceBounds {
    private static final String EDGES = "0,0:A;23,0:B;0,15:C;23,15:D;11,7:E";

    private final Bounds b;

    PlaceBounds(Bounds b) {
        this.b = b;
    }

    void ask() {
        trees();
        yard();
        groups();
        fence();
        crossing();
        paths();
        round();
    }

    private static String row(int cuts) {
        StringBuilder bark = new StringBuilder();
        for (int i = 0; i < cuts; i++) {
            bark.append(i == 0 ? "" : ";").append(i).append(",0:A");
        }
        return bark.toString();
    }

    private void trees() {
        b.part("Terms");
        b.sentence("TREES are PLACES of CUTS' TREES and of ROOTED ones (unlike ones).");
        GrownInitials g = Due.common("0,0:A;0,0:B;5,0:C");
        b.is("unlike ones", g.trees(), 2);
        g.home(0, 3, 0);
        g.home(1, 3, 0);
        g.home(2, 3, 0);
        g.seasons(5);
        b.is("ABOUT ones are none", g.trees(), 2);
        Due.law(g, "v0(1=1);f99(1=1)");
        b.is("where they are", g.cutIs(0, 8) == g.cutIs(1, 8), true);
        g.seasons(1);
        b.is("all ROOTED", g.count(3), 7);
        b.is("ROOTED ones at one PLACE are one", g.trees(), 4);
        b.promise(23);
        b.sentence("How many TREES.");
        b.is("none", new GrownInitials().trees(), 0);
        b.is("one", Due.common("0,0:A").trees(), 1);
        b.is("sixteen", Due.common(row(16)).trees(), 16);
        b.is("sixteen in one", Due.common("9,9:A;".repeat(15) + "9,9:B").trees(), 1);
        thirtyTwo();
    }

    private void thirtyTwo() {
        GrownInitials g = Due.common(row(16));
        for (int c = 0; c < 16; c++) {
            g.home(c, c, 5);
        }
        g.seasons(2);
        Due.law(g, "v5(1=1);f99(1=1)");
        g.seasons(1);
        b.is("sixteen ROOTED elsewhere", g.trees(), 32);
        b.is("all in the yard", g.yard(0, 23, 0, 15), 32);
        b.is("paths of thirty-two", g.paths(), 15 + 5 + 15);
        b.is("corners of thirty-two", g.fence(0), 4);
        b.is("ground of thirty-two", g.fence(1), 150);
    }

    private void yard() {
        b.part("Terms");
        b.sentence("IN A YARD (X from, to, Y from, to): TREES.");
        GrownInitials some = Due.common("3,9:A;4,9:B;3,10:C");
        b.is("X from 3 to 4, Y from 9 to 9", some.yard(3, 4, 9, 9), 2);
        b.is("X from 3 to 3, Y from 9 to 10", some.yard(3, 3, 9, 10), 2);
        b.is("X from 9 to 10, Y from 3 to 4", some.yard(9, 10, 3, 4), 0);
        b.promise(18);
        b.sentence("IN A YARD: how many TREES; NONE: no such yard (the second ones no less than the first ones, all on "
            + "THE COMMON).");
        int[][] wrong = {{1, 0, 0, 15}, {0, 23, 1, 0}, {-1, 23, 0, 15}, {0, 24, 0, 15}, {0, 23, -1, 15}, {0, 23, 0, 16},
            {24, 24, 0, 0}, {0, 0, 16, 16}, {-1, -1, 0, 0}, {0, 0, -1, -1},
            {Integer.MIN_VALUE, Integer.MAX_VALUE, 0, 15}, {0, 23, Integer.MIN_VALUE, Integer.MAX_VALUE}};
        for (int[] y : wrong) {
            b.leavesAll(2, "yard" + java.util.Arrays.toString(y), g -> g.yard(y[0], y[1], y[2], y[3]), -1);
        }
        GrownInitials g = Due.common(EDGES);
        b.is("all of it", g.yard(0, 23, 0, 15), 5);
        b.is("the second ones as the first ones", g.yard(11, 11, 7, 7), 1);
        b.is("one place beside it", g.yard(12, 12, 7, 7), 0);
        b.is("the first place", g.yard(0, 0, 0, 0), 1);
        b.is("the last place", g.yard(23, 23, 15, 15), 1);
        b.is("without the left side", g.yard(1, 23, 0, 15), 3);
        b.is("without the right side", g.yard(0, 22, 0, 15), 3);
        b.is("without the top", g.yard(0, 23, 1, 15), 3);
        b.is("without the bottom", g.yard(0, 23, 0, 14), 3);
        b.is("up to it", g.yard(0, 10, 1, 14), 0);
        b.is("just to it", g.yard(0, 11, 1, 7), 1);
        b.is("just from it", g.yard(11, 23, 7, 14), 1);
        b.is("below it", g.yard(11, 11, 8, 14), 0);
        b.is("above it", g.yard(11, 11, 1, 6), 0);
        b.is("of none", new GrownInitials().yard(0, 23, 0, 15), 0);
        b.is("no such yard of none", new GrownInitials().yard(0, 24, 0, 15), -1);
    }

    private void groups() {
        b.part("Terms");
        b.sentence("GROUPS of CUTS of which each is no more than so many steps from another one: how many; a CUT's "
            + "(bits).");
        GrownInitials g = Due.common("0,0:A;3,0:B;3,3:C;10,3:D");
        b.is("two steps", g.groups(2, 100), 4);
        b.is("just three steps", g.groups(3, 100), 2);
        b.is("over another one", g.groups(3, 0), 0b0111);
        b.is("alone", g.groups(3, 3), 0b1000);
        b.is("six steps", g.groups(6, 100), 2);
        b.is("seven steps", g.groups(7, 100), 1);
        b.promise(19);
        b.sentence("GROUPS by so many steps (0 to 38), what 100 how many, else that of CUT what (bits); NONE: no such "
            + "ones.");
        for (int steps : new int[] {-1, 39, Integer.MIN_VALUE, Integer.MAX_VALUE}) {
            b.leavesAll(2, "groups(" + steps + ", 100)", h -> h.groups(steps, 100), -1);
            b.leavesAll(2, "groups(" + steps + ", 0)", h -> h.groups(steps, 0), -1);
        }
        for (int what : new int[] {-1, 6, 15, 16, 99, 101, Integer.MIN_VALUE, Integer.MAX_VALUE}) {
            b.leavesAll(2, "groups(5, " + what + ")", h -> h.groups(5, what), -1);
        }
        g = Due.common("0,0:A;23,15:B;0,0:C;1,0:D");
        b.is("0 steps", g.groups(0, 100), 3);
        b.is("of CUT 0 by 0 steps", g.groups(0, 0), 0b0101);
        b.is("of CUT 3 by 0 steps", g.groups(0, 3), 0b1000);
        b.is("36 steps", g.groups(36, 100), 2);
        b.is("37 steps", g.groups(37, 100), 1);
        b.is("38 steps", g.groups(38, 1), 0b1111);
        g = Due.common("0,0:A;23,15:B");
        b.is("37 of 38 steps", g.groups(37, 100), 2);
        b.is("38 of 38 steps", g.groups(38, 100), 1);
        b.is("none of none", new GrownInitials().groups(0, 100), 0);
        b.is("CUT 0 of none", new GrownInitials().groups(0, 0), -1);
        g = Due.common(row(16));
        b.is("sixteen alone", g.groups(0, 100), 16);
        b.is("the last of sixteen", g.groups(0, 15), 1 << 15);
        b.is("sixteen in a row", g.groups(1, 100), 1);
        b.is("all of them", g.groups(1, 15), 65535);
    }

    private void fenced(String bark, int corners, int ground) {
        GrownInitials g = bark.isEmpty() ? new GrownInitials() : Due.common(bark);
        b.is("corners of " + bark, g.fence(0), corners);
        b.is("twice the ground of " + bark, g.fence(1), ground);
    }

    private void fence() {
        b.part("Terms");
        b.sentence("A FENCE: the corners of the smallest fence without a dent round all TREES (those on a straight side "
            + "are no corners; of TREES all in a line both ends; of one that one): how many; twice the ground in it.");
        fenced("", 0, 0);
        fenced("5,5:A", 1, 0);
        fenced("5,5:A;5,5:B", 1, 0);
        fenced("5,5:A;5,6:B", 2, 0);
        fenced("5,5:A;6,6:B", 2, 0);
        fenced("0,0:A;23,0:B;9,0:C;1,0:D", 2, 0);
        fenced("4,15:A;4,0:B;4,9:C", 2, 0);
        fenced("0,0:A;15,15:B;9,9:C;1,1:D", 2, 0);
        fenced("0,15:A;15,0:B;9,6:C;1,14:D", 2, 0);
        fenced("2,1:A;8,4:B;4,2:C;6,3:D", 2, 0);
        fenced("0,0:A;1,0:B;0,1:C", 3, 1);
        fenced("0,0:A;9,9:B;9,8:C", 3, 9);
        fenced("0,0:A;4,0:B;0,4:C;2,2:D;2,0:E;0,2:F;1,1:G", 3, 16);
        fenced("0,0:A;4,0:B;0,4:C;4,4:D;2,2:E;2,0:F;4,2:G;2,4:H;0,2:I", 4, 32);
        fenced("0,0:A;4,0:B;4,4:C;3,2:D", 3, 16);
        fenced("0,0:A;4,0:B;4,4:C;0,4:D;1,2:E", 4, 32);
        fenced("0,0:A;23,0:B;0,15:C;23,15:D", 4, 690);
        fenced("2,0:A;4,0:B;6,2:C;6,4:D;4,6:E;2,6:F;0,4:G;0,2:H;1,1:I;5,5:J", 8, 56);
        GrownInitials again = Due.common("2,0:A;4,0:B;6,2:C;6,4:D;4,6:E;2,6:F;0,4:G;0,2:H;1,1:I;5,5:J");
        b.is("eight corners", again.fence(0), 8);
        Due.bark(again, "9,9:A;12,9:B;9,13:C");
        b.is("nothing is left of the fence before", again.fence(1), 12);
        b.is("three corners", again.fence(0), 3);
        Due.bark(again, "9,9:A;12,9:B");
        b.is("nor of this one", again.fence(1), 0);
        b.promise(20);
        b.sentence("A FENCE, what 0 corners, 1 twice the ground; NONE: no such what.");
        for (int what : new int[] {-1, 2, 100, Integer.MIN_VALUE, Integer.MAX_VALUE}) {
            b.leavesAll(2, "fence(" + what + ")", g -> g.fence(what), -1);
        }
        b.is("no such what of none", new GrownInitials().fence(2), -1);
        b.is("corners", Due.common(EDGES).fence(0), 4);
        b.is("twice the ground", Due.common(EDGES).fence(1), 690);
    }

    private void ways(String what, int twos, int... p) {
        GrownInitials g = Due.common(p[0] + "," + p[1] + ":A;" + p[4] + "," + p[5] + ":B");
        g.home(0, p[2], p[3]);
        g.home(1, p[6], p[7]);
        b.is(what, g.crossing(), twos);
    }

    private void crossing() {
        b.part("Terms");
        b.sentence("CROSSING: twos of CUTS whose straight ways from TREE to HOME have a point in common (of no length, "
            + "too): how many.");
        ways("across each other", 1, 0, 0, 4, 4, 0, 4, 4, 0);
        ways("just to it", 1, 0, 0, 8, 0, 4, 0, 4, 5);
        ways("just short of it", 0, 0, 0, 8, 0, 4, 1, 4, 5);
        ways("just to it by its HOME", 1, 0, 0, 8, 0, 4, 5, 4, 0);
        ways("just short of it by its HOME", 0, 0, 0, 8, 0, 4, 5, 4, 1);
        ways("the other just to it", 1, 4, 0, 4, 5, 0, 0, 8, 0);
        ways("the other just short of it", 0, 4, 1, 4, 5, 0, 0, 8, 0);
        ways("the other just to it by its HOME", 1, 4, 5, 4, 0, 0, 0, 8, 0);
        ways("the other just short of it by its HOME", 0, 4, 5, 4, 1, 0, 0, 8, 0);
        ways("end to end", 1, 0, 0, 4, 0, 4, 0, 8, 3);
        ways("end beside end", 0, 0, 0, 4, 0, 5, 0, 8, 3);
        ways("in line, end to end", 1, 0, 0, 4, 4, 4, 4, 9, 9);
        ways("in line, apart", 0, 0, 0, 4, 4, 5, 5, 9, 9);
        ways("in line, one in the other", 1, 0, 0, 9, 9, 3, 3, 5, 5);
        ways("side by side", 0, 0, 0, 9, 9, 1, 0, 10, 9);
        ways("the same", 1, 0, 0, 9, 9, 0, 0, 9, 9);
        ways("the same the other way", 1, 0, 0, 9, 9, 9, 9, 0, 0);
        ways("the whole common", 1, 0, 0, 23, 15, 0, 15, 23, 0);
        ways("of no length, on a way", 1, 0, 0, 4, 2, 2, 1, 2, 1);
        ways("of no length, at its end", 1, 0, 0, 4, 2, 4, 2, 4, 2);
        ways("of no length, in line behind it", 0, 0, 0, 4, 2, 6, 3, 6, 3);
        ways("of no length, in line ahead of it", 0, 2, 1, 4, 2, 0, 0, 0, 0);
        ways("of no length, beside it", 0, 0, 0, 4, 2, 2, 2, 2, 2);
        ways("both of no length, at one place", 1, 7, 7, 7, 7, 7, 7, 7, 7);
        ways("both of no length, apart", 0, 7, 7, 7, 7, 8, 7, 8, 7);
        b.promise(21);
        b.sentence("CROSSING: how many twos.");
        b.is("none of none", new GrownInitials().crossing(), 0);
        b.is("none of one", Due.common("0,0:A").crossing(), 0);
        b.is("all twos of sixteen", Due.common("9,9:A;".repeat(15) + "9,9:B").crossing(), 120);
        b.is("none of sixteen", Due.common(row(16)).crossing(), 0);
    }

    private void paths() {
        b.part("Terms");
        b.sentence("PATHS: the least steps in all (across and along added up) of paths from TREE to TREE that join all.");
        b.is("none", new GrownInitials().paths(), 0);
        b.is("one", Due.common("9,9:A").paths(), 0);
        b.is("two at one place", Due.common("9,9:A;9,9:B").paths(), 0);
        b.is("beside each other", Due.common("9,9:A;9,10:B").paths(), 1);
        b.is("as far as can be", Due.common("0,0:A;23,15:B").paths(), 38);
        b.is("from TREE to TREE alone", Due.common("0,0:A;2,0:B;1,3:C").paths(), 2 + 4);
        b.promise(22);
        b.sentence("PATHS: steps.");
        b.is("a row of sixteen", Due.common(row(16)).paths(), 15);
        b.is("four corners", Due.common("0,0:A;23,0:B;0,15:C;23,15:D").paths(), 15 + 15 + 23);
    }

    private void round() {
        b.part("Terms");
        b.sentence("A ROUND: from 0, 0 through TREES of 1 to 9 told CUTS (each at least once) and back: the fewest "
            + "steps; the CUT that comes first (of like ones the least row).");
        GrownInitials g = Due.common("4,0:A;0,4:B;0,0:C;4,0:D");
        b.is("of one", g.round(0b0001, 0), 8);
        b.is("of one at 0, 0", g.round(0b0100, 0), 0);
        b.is("that one", g.round(0b0100, 1), 2);
        b.is("of two", g.round(0b0011, 0), 16);
        b.is("of like ones the least row", g.round(0b0011, 1), 0);
        b.is("the least row of others", g.round(0b1010, 1), 1);
        b.is("two at one place", g.round(0b1001, 0), 8);
        b.is("the least row of those", g.round(0b1001, 1), 0);
        b.is("all", g.round(0b1111, 0), 16);
        b.is("the one at 0, 0 may come later", g.round(0b1110, 1), 1);
        g = Due.common("23,15:A");
        b.is("the farthest", g.round(1, 0), 76);
        g = Due.common("9,9:A;1,0:B;0,9:C;9,0:D");
        b.is("a row that must begin elsewhere", g.round(0b1111, 1), 1);
        b.is("its steps", g.round(0b1111, 0), 36);
        b.promise(24);
        b.sentence("A ROUND through TREES of some CUTS (bits, 1 to 9 of them), what 0 steps, 1 the first one; NONE: no "
            + "such ones.");
        for (int cuts : new int[] {0, 64, 65, -1, 65536, 65537, Integer.MIN_VALUE, Integer.MIN_VALUE + 1,
            Integer.MAX_VALUE}) {
            b.leavesAll(2, "round(" + cuts + ", 0)", h -> h.round(cuts, 0), -1);
            b.leavesAll(2, "round(" + cuts + ", 1)", h -> h.round(cuts, 1), -1);
        }
        for (int what : new int[] {-1, 2, 100, Integer.MIN_VALUE, Integer.MAX_VALUE}) {
            b.leavesAll(2, "round(1, " + what + ")", h -> h.round(1, what), -1);
        }
        b.is("round(1, 0) of none", new GrownInitials().round(1, 0), -1);
        b.is("round(0, 0) of none", new GrownInitials().round(0, 0), -1);
        g = Due.common(row(16));
        b.is("the last one", g.round(1 << 15, 0), 30);
        b.is("the last one first", g.round(1 << 15, 1), 15);
        b.is("one beyond the last", g.round(1 << 16, 0), -1);
        b.is("nine", g.round(0b1111111110000000, 0), 30);
        b.is("the first of nine", g.round(0b1111111110000000, 1), 7);
        b.is("the nine lowest", g.round(0b111111111, 0), 16);
        b.is("ten, scattered", g.round(0b1010101010101111, 0), -1);
        b.is("nine, scattered", g.round(0b1010101010101011, 0), 30);
        b.is("ten", g.round(0b1111111111, 0), -1);
        b.is("sixteen", g.round(65535, 0), -1);
        g = Due.common(row(9));
        b.is("all nine", g.round(511, 0), 16);
        b.is("one that is not", g.round(512, 0), -1);
    }
}
