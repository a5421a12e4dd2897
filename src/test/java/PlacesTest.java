/** Promises 14 and 17 to 24: places, trees, groups, fences, ways, paths and rounds. */
public final class PlacesTest {
    private static final Due DUE = new Due("PlacesTest");

    public static void main(String[] args) {
        nearest();
        busiest();
        yard();
        groups();
        fence();
        crossing();
        pathsAndTrees();
        thirtyTwoTrees();
        round();
        DUE.end();
    }

    private static void nearest() {
        GrownInitials g = Due.common("0,0:A;5,0:B;0,5:C;5,1:D");
        DUE.is("of like ones the lowest", g.nearest(0, 0), 1);
        DUE.is("steps", g.nearest(0, 1), 5);
        DUE.is("nearest(1, 0)", g.nearest(1, 0), 3);
        DUE.is("nearest(3, 0)", g.nearest(3, 0), 1);
        DUE.is("nearest(3, 1)", g.nearest(3, 1), 1);
        DUE.is("nearest(2, 0)", g.nearest(2, 0), 0);
        DUE.is("nearest(4, 0)", g.nearest(4, 0), -1);
        DUE.is("nearest(-1, 0)", g.nearest(-1, 0), -1);
        DUE.is("nearest(0, 2)", g.nearest(0, 2), -1);
        DUE.is("nearest(0, -1)", g.nearest(0, -1), -1);
        g.home(2, 0, 0);
        g.seasons(4);
        DUE.is("by its PLACE", g.nearest(0, 0), 2);
        DUE.is("steps by its PLACE", g.nearest(0, 1), 3);
        g = Due.common("3,3:A;3,3:B");
        DUE.is("one in the same tree", g.nearest(1, 1), 0);
        g = Due.common("3,3:A");
        DUE.is("no other", g.nearest(0, 0), -2);
        DUE.is("no other how many", g.nearest(0, 1), -2);
        DUE.is("no other, wrong what", g.nearest(0, 2), -1);
    }

    private static void busiest() {
        GrownInitials g = Due.common("9,9:A;1,0:B;9,9:C;0,1:D");
        DUE.is("busiest(0)", g.busiest(0), 225);
        DUE.is("busiest(1)", g.busiest(1), 2);
        DUE.is("busiest(2)", g.busiest(2), -1);
        DUE.is("busiest(-1)", g.busiest(-1), -1);
        g.home(3, 1, 0);
        DUE.is("of like ones the lowest", g.busiest(0), 1);
        g.home(0, 0, 0);
        g.home(1, 0, 1);
        g.home(2, 23, 15);
        DUE.is("of one each", g.busiest(0), 0);
        DUE.is("one each", g.busiest(1), 1);
        g.seasons(9);
        DUE.is("by HOMES, not by PLACES", g.busiest(0), 0);
    }

    private static void yard() {
        GrownInitials g = Due.common("0,0:A;23,15:B;5,5:C;5,5:D;6,5:E");
        DUE.is("all", g.yard(0, 23, 0, 15), 4);
        DUE.is("one", g.yard(5, 5, 5, 5), 1);
        DUE.is("two", g.yard(5, 6, 5, 5), 2);
        DUE.is("none", g.yard(7, 22, 0, 14), 0);
        DUE.is("the corner", g.yard(23, 23, 15, 15), 1);
        DUE.is("right below left", g.yard(6, 5, 0, 15), -1);
        DUE.is("bottom below top", g.yard(0, 23, 6, 5), -1);
        DUE.is("left below 0", g.yard(-1, 5, 0, 5), -1);
        DUE.is("right above 23", g.yard(0, 24, 0, 5), -1);
        DUE.is("top below 0", g.yard(0, 5, -1, 5), -1);
        DUE.is("bottom above 15", g.yard(0, 5, 0, 16), -1);
        g.home(0, 9, 9);
        g.seasons(4);
        Due.law(g, "f99(c=0)");
        g.seasons(1);
        DUE.is("a ROOTED one is a tree, too", g.yard(0, 4, 0, 0), 2);
    }

    private static void groups() {
        GrownInitials g = Due.common("0,0:A;2,0:B;4,0:C;9,9:D;9,11:E");
        DUE.is("groups(1, 100)", g.groups(1, 100), 5);
        DUE.is("groups(2, 100)", g.groups(2, 100), 2);
        DUE.is("groups(2, 0)", g.groups(2, 0), 7);
        DUE.is("groups(2, 2)", g.groups(2, 2), 7);
        DUE.is("groups(2, 4)", g.groups(2, 4), 24);
        DUE.is("groups(13, 100)", g.groups(13, 100), 2);
        DUE.is("groups(14, 100)", g.groups(14, 100), 1);
        DUE.is("groups(38, 3)", g.groups(38, 3), 31);
        DUE.is("groups(39, 100)", g.groups(39, 100), -1);
        DUE.is("groups(-1, 100)", g.groups(-1, 100), -1);
        DUE.is("groups(0, 5)", g.groups(0, 5), -1);
        DUE.is("groups(0, -1)", g.groups(0, -1), -1);
        DUE.is("groups(0, 99)", g.groups(0, 99), -1);
        DUE.is("groups(0, 101)", g.groups(0, 101), -1);
        g.home(3, 4, 9);
        g.seasons(7);
        DUE.is("by PLACES", g.groups(2, 100), 3);
        g = Due.common("23,15:A;0,0:B");
        DUE.is("38 steps", g.groups(38, 100), 1);
        DUE.is("37 steps", g.groups(37, 100), 2);
        g = Due.common("0,0:A;6,0:B;1,0:C;5,0:D;2,0:E;4,0:F;3,0:G");
        DUE.is("a long row", g.groups(1, 1), 127);
    }

    private static void fence(String bark, int corners, int ground) {
        GrownInitials g = Due.common(bark);
        DUE.is("corners of " + bark, g.fence(0), corners);
        DUE.is("ground of " + bark, g.fence(1), ground);
        DUE.is("fence(2)", g.fence(2), -1);
        DUE.is("fence(-1)", g.fence(-1), -1);
    }

    private static void fence() {
        fence("7,7:A", 1, 0);
        fence("7,7:A;7,7:B", 1, 0);
        fence("7,7:A;8,9:B", 2, 0);
        fence("0,0:A;2,2:B;1,1:C", 2, 0);
        fence("3,0:A;1,0:B;2,0:C;9,0:D", 2, 0);
        fence("3,0:A;3,4:B;3,2:C", 2, 0);
        fence("0,0:A;4,0:B;0,3:C", 3, 12);
        fence("0,0:A;4,0:B;0,4:C;4,4:D;2,0:E;2,2:F;0,3:G;4,1:H;2,4:I", 4, 32);
        fence("0,0:A;23,0:B;0,15:C;23,15:D", 4, 690);
        fence("2,0:A;4,2:B;2,4:C;0,2:D;1,1:E;3,3:F", 4, 16);
        GrownInitials g = Due.common("0,0:A;4,0:B");
        g.home(0, 2, 9);
        g.home(1, 9, 0);
        g.seasons(6);
        Due.law(g, "f99(c=0)");
        g.seasons(1);
        DUE.is("ROOTED", g.cutIs(0, 8), 3 * 24 + 2);
        DUE.is("corners with a ROOTED one", g.fence(0), 3);
        DUE.is("ground with a ROOTED one", g.fence(1), 12);
    }

    private static void cross(String what, int due, int... p) {
        GrownInitials g = Due.common(p[0] + "," + p[1] + ":A;" + p[4] + "," + p[5] + ":B");
        g.home(0, p[2], p[3]);
        g.home(1, p[6], p[7]);
        DUE.is(what, g.crossing(), due);
    }

    private static void crossing() {
        cross("an X", 1, 0, 0, 4, 4, 0, 4, 4, 0);
        cross("a T", 1, 0, 0, 4, 0, 2, 0, 2, 5);
        cross("an L", 1, 0, 0, 4, 0, 4, 0, 4, 5);
        cross("apart", 0, 0, 0, 4, 0, 0, 1, 4, 1);
        cross("in line apart", 0, 0, 0, 4, 4, 5, 5, 9, 9);
        cross("in line end to end", 1, 0, 0, 4, 4, 9, 9, 4, 4);
        cross("in line over", 1, 0, 0, 4, 4, 9, 9, 3, 3);
        cross("in line within", 1, 0, 0, 9, 9, 3, 3, 4, 4);
        cross("the lines would cross", 0, 0, 0, 1, 1, 0, 4, 4, 0);
        cross("one side only", 0, 0, 0, 9, 0, 4, 1, 5, 9);
        cross("of no length on a way", 1, 0, 0, 4, 2, 2, 1, 2, 1);
        cross("of no length beside a way", 0, 0, 0, 4, 2, 2, 2, 2, 2);
        cross("of no length in line", 0, 0, 0, 4, 2, 6, 3, 6, 3);
        cross("both of no length, alike", 1, 3, 3, 3, 3, 3, 3, 3, 3);
        cross("both of no length, unlike", 0, 3, 3, 3, 3, 4, 3, 4, 3);
        GrownInitials g = Due.common("0,0:A;0,4:B;2,0:C;9,9:D");
        g.home(0, 4, 4);
        g.home(1, 4, 0);
        g.home(2, 2, 4);
        DUE.is("three twos", g.crossing(), 3);
        g.seasons(50);
        DUE.is("wherever they are", g.crossing(), 3);
        DUE.is("none in a new one", new GrownInitials().crossing(), 0);
    }

    private static void pathsAndTrees() {
        GrownInitials g = Due.common("0,0:A;0,0:B;10,0:C;5,5:D;5,6:E");
        DUE.is("trees", g.trees(), 4);
        DUE.is("paths", g.paths(), 1 + 10 + 10);
        g = Due.common("0,0:A;23,15:B");
        DUE.is("two trees", g.paths(), 38);
        g.home(0, 3, 0);
        g.seasons(4);
        Due.law(g, "f99(c=0)");
        g.seasons(1);
        DUE.is("a ROOTED one on a new place", g.trees(), 3);
        DUE.is("paths with it", g.paths(), 38);
        g = Due.common("0,0:A;5,0:B", "f99(s=2)");
        g.home(0, 1, 0);
        g.home(1, 4, 0);
        g.seasons(3);
        DUE.is("two ROOTED", g.trees(), 4);
        DUE.is("paths of four", g.paths(), 5);
        g = Due.common("0,0:A;5,0:B", "f99(s=2)");
        g.seasons(3);
        DUE.is("ROOTED in their trees", g.trees(), 2);
    }

    /** Sixteen cuts near a curve, each rooted beside its tree on a curve farther out. */
    private static void thirtyTwoTrees() {
        int[][] inner = {{8, 4}, {9, 3}, {11, 2}, {13, 2}, {15, 3}, {16, 4}, {17, 6}, {17, 8},
            {16, 10}, {15, 11}, {13, 12}, {11, 12}, {9, 11}, {8, 10}, {7, 8}, {7, 6}};
        StringBuilder bark = new StringBuilder();
        for (int[] spot : inner) {
            bark.append(bark.length() == 0 ? "" : ";").append(spot[0]).append(',').append(spot[1]).append(":A");
        }
        GrownInitials g = Due.common(bark.toString());
        for (int c = 0; c < 16; c++) {
            int outX = inner[c][0] < 12 ? -1 : 1;
            int outY = inner[c][1] < 7 ? -1 : 1;
            g.home(c, inner[c][0] + outX, inner[c][1] + outY);
        }
        DUE.is("sixteen trees", g.trees(), 16);
        DUE.is("sixteen corners", g.fence(0), 16);
        DUE.is("ground", g.fence(1), 156);
        DUE.is("paths of sixteen", g.paths(), 37);
        g.seasons(2);
        Due.law(g, "v2(1=1);f99(1=1)");
        g.seasons(1);
        DUE.is("all rooted", g.count(3), 65535);
        DUE.is("thirty-two trees", g.trees(), 32);
        DUE.is("in the yard", g.yard(0, 23, 0, 15), 32);
        DUE.is("sixteen corners farther out", g.fence(0), 16);
        DUE.is("more ground", g.fence(1), 244);
        DUE.is("paths of thirty-two", g.paths(), 69);
    }

    private static void round() {
        GrownInitials g = Due.common("5,0:A;0,5:B;5,5:C;0,0:D;10,0:E");
        DUE.is("round of one", g.round(1, 0), 10);
        DUE.is("the only one", g.round(2, 1), 1);
        DUE.is("round of a square", g.round(7, 0), 20);
        DUE.is("of like ones the least row", g.round(7, 1), 0);
        DUE.is("round of four", g.round(23, 0), 30);
        DUE.is("round at 0, 0", g.round(8, 0), 0);
        DUE.is("a row may begin on the way", g.round(17, 1), 0);
        DUE.is("round(0, 0)", g.round(0, 0), -1);
        DUE.is("round(32, 0)", g.round(32, 0), -1);
        DUE.is("round(33, 0)", g.round(33, 0), -1);
        DUE.is("round(-1, 0)", g.round(-1, 0), -1);
        DUE.is("round(min, 0)", g.round(Integer.MIN_VALUE, 0), -1);
        DUE.is("round(1, 2)", g.round(1, 2), -1);
        DUE.is("round(1, -1)", g.round(1, -1), -1);
        g.home(0, 23, 15);
        g.seasons(50);
        DUE.is("by TREES", g.round(1, 0), 10);
        g = Due.common("9,0:A;9,3:B;0,3:C;3,9:D;1,1:E");
        DUE.is("the first that comes", g.round(31, 1), 0);
        DUE.is("its steps", g.round(31, 0), 38);
        StringBuilder ten = new StringBuilder();
        for (int i = 0; i < 16; i++) {
            ten.append(i == 0 ? "" : ";").append(i).append(",0:A");
        }
        g = Due.common(ten.toString());
        DUE.is("nine", g.round(0b1111111110000000, 0), 30);
        DUE.is("nine, the first", g.round(0b1111111110000000, 1), 7);
        DUE.is("ten", g.round(0b1111111111000000, 0), -1);
        DUE.is("bit 16", g.round(0x10001, 0), -1);
        g = Due.common("0,4:A;4,0:B;0,4:C");
        DUE.is("two in one tree", g.round(7, 0), 16);
        DUE.is("two in one tree, the first", g.round(7, 1), 0);
        DUE.is("the higher ones", g.round(6, 1), 1);
    }
}
