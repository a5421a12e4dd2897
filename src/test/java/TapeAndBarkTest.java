/** Promises 1 to 3, 5, 8, 11, 12, 16 and 32: a new object, the tape, homes, bark and what it tells. */
public final class TapeAndBarkTest {
    private static final Due DUE = new Due("TapeAndBarkTest");

    public static void main(String[] args) {
        newObject();
        feed();
        barkRefused();
        barkFaults();
        barkTells();
        barkBeginsAnew();
        home();
        singleAndWho();
        dates();
        counts();
        DUE.end();
    }

    private static void newObject() {
        GrownInitials g = new GrownInitials();
        for (int what = 0; what <= 6; what++) {
            DUE.is("new count(" + what + ")", g.count(what), 0);
        }
        DUE.is("new count(7)", g.count(7), 1);
        DUE.is("new count(8)", g.count(8), -1);
        DUE.is("new count(-1)", g.count(-1), -1);
        DUE.is("new cutIs(0, 0)", g.cutIs(0, 0), -1);
        DUE.is("new undo()", g.undo(), false);
        DUE.is("new keep()", g.keep(), 0);
        DUE.is("undo() of none", g.undo(), true);
        DUE.is("seasons of none", g.seasons(100), 0);
        DUE.is("season of none", g.count(0), 100);
        DUE.is("no draws for none", g.count(7), 1);
    }

    private static void feed() {
        GrownInitials g = new GrownInitials();
        for (int i = 1; i <= 13; i++) {
            DUE.is("feed " + i, g.feed(i, 0, 0, 0, 0), 20 * i);
        }
        DUE.is("feed beyond 260", g.feed(0, 0, 0, 0, 0), -1);
        DUE.is("tape", g.count(6), 260);
        DUE.is("law(241)", g.law(241), -1);
        DUE.is("bark(161)", g.bark(161), -1);
        DUE.is("tape stays", g.count(6), 260);
        DUE.is("law(240)", g.law(240), -1000);
        DUE.is("tape is empty", g.count(6), 0);
        g.feed(0x302C303A, 0x41000000, 0, 0, 0);
        DUE.is("highest byte first", g.bark(5), 1);
        g.feed(0, 0, 0, 0, 0x80FF7F01);
        DUE.is("bytes have no sign", g.check(16), 0);
    }

    private static void barkRefused() {
        GrownInitials g = Due.common("1,1:A");
        DUE.is("bark(1) of no tape", g.bark(1), -1);
        g.feed(0, 0, 0, 0, 0);
        DUE.is("bark(0)", g.bark(0), -1);
        DUE.is("bark(-1)", g.bark(-1), -1);
        DUE.is("bark(21)", g.bark(21), -1);
        DUE.is("bark(max)", g.bark(Integer.MAX_VALUE), -1);
        DUE.is("bark(min)", g.bark(Integer.MIN_VALUE), -1);
        DUE.is("tape", g.count(6), 20);
        DUE.is("cuts stay", g.count(1), 1);
    }

    private static void fault(String bark, int due) {
        GrownInitials g = Due.common("1,1:A;2,2:B");
        g.seasons(2);
        DUE.is("bark " + bark, Due.bark(g, bark), due);
        DUE.is("tape behind " + bark, g.count(6), 0);
        DUE.is("cuts behind " + bark, g.count(1), 2);
        DUE.is("state behind " + bark, g.count(2), 3);
    }

    private static void barkFaults() {
        fault(",0:A", -1000);
        fault("1", -1001);
        fault("11", -1002);
        fault("24", -3000);
        fault("24x", -3000);
        fault("99,0:A", -3000);
        fault("245,0:A", -2002);
        fault("023,0:A", -2002);
        fault("1:2", -1001);
        fault("1,", -1002);
        fault("1,16", -3002);
        fault("1,160:A", -2004);
        fault("1,1;", -1003);
        fault("1,1:", -1004);
        fault("1,1:a", -1004);
        fault("1,1:&A", -1004);
        fault("1,1:@", -1004);
        fault("1,1:Q", -1004);
        fault("1,1:xx", -1005);
        fault("1,1:x ", -1005);
        fault("1,1:x", -1005);
        fault("1,1:[", -1005);
        fault("1,1:[]", -1005);
        fault("1,1:[x", -1005);
        fault("1,1:[[A]]", -1005);
        fault("1,1:[A", -1006);
        fault("1,1:[A>", -1006);
        fault("1,1:[A9", -1006);
        fault("1,1:[AA]", -6006);
        fault("1,1:[P&P]", -6007);
        fault("1,1:A&&", -1006);
        fault("1,1:A&Q", -1006);
        fault("1,1:ABA", -1006);
        fault("1,1:AB&", -1006);
        fault("1,1:A&BB", -1007);
        fault("1,1:A1", -1006);
        fault("1,1:A1>", -1006);
        fault("1,1:A123", -1007);
        fault("1,1:A12>>", -1008);
        fault("1,1:A>12", -1006);
        fault("1,1:A ", -1005);
        fault("1,1:A;", -1006);
        fault("1,1:A;;", -1006);
        fault("1,1:A;1,1:BB", -6011);
        fault("1,1:A;1,99:B", -3008);
        String sixteen = "0,0:A;".repeat(16);
        fault(sixteen, -1096);
        fault(sixteen + ";", -1096);
        fault(sixteen + "9", -4096);
        fault(sixteen + "999", -4096);
    }

    private static void tells(GrownInitials g, int c, int... due) {
        for (int what = 0; what < due.length; what++) {
            DUE.is("cutIs(" + c + ", " + what + ")", g.cutIs(c, what), due[what]);
        }
    }

    private static void barkTells() {
        GrownInitials g = new GrownInitials();
        DUE.is("bark", Due.bark(g, "23,15:P;0,00:x[A&B]99>;07,1:C&;1,2:DE00"), 4);
        tells(g, 0, 383, 15, -2, 0, 0, 0, -2, 383, 383, 99, 0, 0, 0, -1, -1);
        tells(g, 1, 0, 0, 1, 1, 1, 1, 99, 0, 0, 99, 0, 0, 0, -1, -1);
        tells(g, 2, 31, 2, -3, 0, 0, 0, -2, 31, 31, 99, 0, 0, 0, -1, -1);
        tells(g, 3, 49, 3, 4, 0, 0, 0, 0, 49, 49, 99, 0, 0, 0, -1, -1);
        DUE.is("cutIs(4, 0)", g.cutIs(4, 0), -1);
        DUE.is("cutIs(-1, 0)", g.cutIs(-1, 0), -1);
        DUE.is("cutIs(0, -1)", g.cutIs(0, -1), -1);
        DUE.is("cutIs(max, max)", g.cutIs(Integer.MAX_VALUE, Integer.MAX_VALUE), -1);
        DUE.is("cutIs(min, 0)", g.cutIs(Integer.MIN_VALUE, 0), -1);
        String longest = "10,10:[AB];".repeat(14) + "1,1:AB";
        DUE.is("bark of 160 bytes", longest.length(), 160);
        DUE.is("bark(160)", Due.bark(g, longest), 15);
        String sixteen = "0,0:A;".repeat(15) + "1,1:B";
        DUE.is("bark of 16", Due.bark(g, sixteen), 16);
        tells(g, 15, 25, 1, -2);
    }

    private static void barkBeginsAnew() {
        GrownInitials g = Due.common("1,1:A;2,2:B", "f99(c=0)");
        g.home(1, 9, 9);
        g.seasons(5);
        DUE.is("rooted", g.count(3), 1);
        DUE.is("bark", Due.bark(g, "3,3:C;4,4:D;5,5:E"), 3);
        tells(g, 0, 75, 2, -2, 0, 0, 0, -2, 75, 75, 99, 0, 0, 0);
        tells(g, 1, 100, 3, -2, 0, 0, 0, -2, 100, 100, 99, 0, 0, 0);
        DUE.is("season stays", g.count(0), 5);
        DUE.is("law stays", g.count(5), 1);
    }

    private static void home() {
        GrownInitials g = Due.common("1,1:A;2,2:B");
        DUE.is("home(1, 23, 15)", g.home(1, 23, 15), true);
        DUE.is("HOME", g.cutIs(1, 7), 383);
        DUE.is("HOME of the other", g.cutIs(0, 7), 25);
        DUE.is("PLACE", g.cutIs(1, 8), 50);
        DUE.is("home(2, 0, 0)", g.home(2, 0, 0), false);
        DUE.is("home(-1, 0, 0)", g.home(-1, 0, 0), false);
        DUE.is("home(0, 24, 0)", g.home(0, 24, 0), false);
        DUE.is("home(0, -1, 0)", g.home(0, -1, 0), false);
        DUE.is("home(0, 0, 16)", g.home(0, 0, 16), false);
        DUE.is("home(0, 0, -1)", g.home(0, 0, -1), false);
        DUE.is("HOME stays", g.cutIs(0, 7), 25);
    }

    private static void singleAndWho() {
        GrownInitials g = Due.common("0,0:A;0,0:A&;0,0:AB;0,0:B&A;0,0:[P&]");
        DUE.is("single(0)", g.single(0), 0b10011);
        DUE.is("single(1)", g.single(1), 0b10010);
        DUE.is("single(2)", g.single(2), -1);
        DUE.is("single(-1)", g.single(-1), -1);
        DUE.is("who(0)", g.who(0), 0b01111);
        DUE.is("who(1)", g.who(1), 0b01100);
        DUE.is("who(2)", g.who(2), 0);
        DUE.is("who(15)", g.who(15), 0b10000);
        DUE.is("who(16)", g.who(16), -1);
        DUE.is("who(-1)", g.who(-1), -1);
        DUE.is("who(-2)", g.who(-2), -1);
        DUE.is("who(-3)", g.who(-3), -1);
    }

    private static void dates() {
        GrownInitials g = Due.common("0,0:A07;0,0:A;0,0:A99;0,0:A08");
        DUE.is("dates(0)", g.dates(0), 3);
        DUE.is("dates(1)", g.dates(1), 7);
        DUE.is("dates(2)", g.dates(2), 99);
        DUE.is("dates(3)", g.dates(3), -1);
        DUE.is("dates(-1)", g.dates(-1), -1);
        g = Due.common("0,0:A00");
        DUE.is("dates(1) of 00", g.dates(1), 0);
        DUE.is("dates(2) of 00", g.dates(2), 0);
        g = Due.common("0,0:A");
        DUE.is("dates(0) of none", g.dates(0), 0);
        DUE.is("dates(1) of none", g.dates(1), -2);
        DUE.is("dates(2) of none", g.dates(2), -2);
    }

    private static void counts() {
        GrownInitials g = Due.common("0,0:A;1,0:B;2,0:C", "f99(c=1);v0(1=1)");
        g.seasons(3);
        g.feed(0, 0, 0, 0, 0);
        DUE.is("count(0)", g.count(0), 3);
        DUE.is("count(1)", g.count(1), 3);
        DUE.is("count(2)", g.count(2), 0b101);
        DUE.is("count(3)", g.count(3), 0b010);
        DUE.is("count(4)", g.count(4), 2);
        DUE.is("count(5)", g.count(5), 2);
        DUE.is("count(6)", g.count(6), 20);
    }
}
