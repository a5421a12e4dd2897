/** Promise 4: the law, its faults, and what it reckons (asked through tried). */
public final class LawTest {
    private static final Due DUE = new Due("LawTest");

    public static void main(String[] args) {
        refused();
        faults();
        reckoning();
        conditions();
        dividing();
        letters();
        firstRule();
        DUE.end();
    }

    private static void refused() {
        GrownInitials g = new GrownInitials();
        DUE.is("law(1) of no tape", g.law(1), -1);
        g.feed(0, 0, 0, 0, 0);
        DUE.is("law(0)", g.law(0), -1);
        DUE.is("law(-1)", g.law(-1), -1);
        DUE.is("law(21)", g.law(21), -1);
        DUE.is("law(max)", g.law(Integer.MAX_VALUE), -1);
        DUE.is("law(min)", g.law(Integer.MIN_VALUE), -1);
        DUE.is("tape stays", g.count(6), 20);
    }

    private static void fault(String law, int due) {
        GrownInitials g = Due.common("0,0:A", "f7(1=1);v1(1=1)");
        DUE.is("law " + law, Due.law(g, law), due);
        DUE.is("tape behind " + law, g.count(6), 0);
        DUE.is("rules behind " + law, g.count(5), 2);
        DUE.is("law behind " + law, g.tried(1, 40), 92);
    }

    private static void faults() {
        fault("c", -1000);
        fault(";", -1000);
        fault(" v1(1=1)", -1000);
        fault("x", -1001);
        fault("x1(1=1)", -1001);
        fault("v(1=1)", -1001);
        fault("v!1(1=1)", -1001);
        fault("v-1(1=1)", -1001);
        fault("v1", -1002);
        fault("v1)", -1002);
        fault("v1=1(1=1)", -1002);
        fault("vc1(1=1)", -1002);
        fault("v1c(1=1)", -1002);
        fault("vx(1=1)", -1001);
        fault("v1+(1=1)", -1003);
        fault("v1**2(1=1)", -1003);
        fault("v[1(1=1)", -1003);
        fault("v[](1=1)", -1002);
        fault("v[1)(1=1)", -1003);
        fault("v1](1=1)", -1002);
        fault("x()", -1002);
        fault("x(", -1002);
        fault("x(1", -1003);
        fault("x(1)", -1003);
        fault("x(1=", -1004);
        fault("x(1=)", -1004);
        fault("x(1=1", -1005);
        fault("x(1==1)", -1004);
        fault("x(1=1=1)", -1005);
        fault("x(1=1]", -1005);
        fault("x(1=1&)", -1006);
        fault("x(1=1|)", -1006);
        fault("x(1=1&&1=1)", -1006);
        fault("x(1=1&|1=1)", -1006);
        fault("x(1=1|&1=1)", -1006);
        fault("x(1=1||1=1)", -1006);
        fault("x(&1=1)", -1002);
        fault("x(!)", -1003);
        fault("x(![1=1])", -1005);
        fault("x((1)=1)", -1004);
        fault("x((1=1)=1)", -1007);
        fault("x(1+(1)=1)", -1004);
        fault("x(1=1))", -1006);
        fault("x(1=1)x", -1006);
        fault("x(1=1);", -1007);
        fault("x(1=1);y", -1007);
        fault("v123456(1=1)", -2006);
        fault("v1+000000(1=1)", -2008);
        fault("x(1=123456)", -2009);
        fault("v123456", -2006);
        fault("x((((((1=1))))))x", -1016);
        fault("x(((((((1=1)))))))", -5007);
        fault("x(((((((", -5007);
        fault("x(!!!!!!1=1)", -5007);
        fault("x(!(!(![1]=1)))", -5007);
        fault("x(!(!(!1=1)&!([1]=[[1]])))", -5019);
        fault("x(!(!(!1=1)&!(![1]=[[1]])))", -5015);
        fault("v[[[[[[[1]]]]]]](1=1)", -5007);
        fault("x([[[[[1]]]]]=[[[[[[1]]]]]])", -5019);
        fault("x(1=1&1[[[[[[[[)", -1007);
        String sixteen = "x(1=0);".repeat(16);
        fault(sixteen, -1112);
        fault(sixteen + "c", -1112);
        fault(sixteen + "v", -4112);
        fault(sixteen + "x(1=0)", -4112);
        GrownInitials g = new GrownInitials();
        DUE.is("sixteen rules", Due.law(g, "x(1=0);".repeat(15) + "x(1=0)"), 16);
        String longest = "v1" + "+1".repeat(116) + "(1=11)";
        DUE.is("law of 240 bytes", longest.length(), 240);
        DUE.is("longest", Due.law(g, longest), 1);
        DUE.is("rules", g.count(5), 1);
        DUE.is("six open", Due.law(g, "v[[[[[[1]]]]]](!!!!!1=1)"), 1);
        DUE.is("open and shut", Due.law(g, "x(!!!!!1=1&!!!!!1=1|(((((1=1))))))"), 1);
        DUE.is("five digits", Due.law(g, "f99999(00000=0)"), 1);
    }

    /** What f is in the first season of a cut without a heart. */
    private static int lost(String law) {
        GrownInitials g = new GrownInitials();
        Due.bark(g, "0,0:A");
        DUE.is("law " + law + " stands", Due.law(g, law) > 0, true);
        return 99 - g.tried(1, 40);
    }

    private static void worth(String e, int due) {
        DUE.is("f" + e, lost("f" + e + "(1=1)"), due);
    }

    private static void reckoning() {
        worth("7", 7);
        worth("99999", 99);
        worth("100", 99);
        worth("98", 98);
        worth("0-1", 0);
        worth("2+3*4", 14);
        worth("2*3+4", 10);
        worth("20-5-3", 12);
        worth("20-5+3", 18);
        worth("90/4/5", 4);
        worth("90/4*5", 99);
        worth("90*4%7/2", 1);
        worth("17%5*4", 8);
        worth("20-[5-3]", 18);
        worth("90/[4*5]", 4);
        worth("[2+3]*[1+1]*2", 20);
        worth("[0-7]/2+10", 7);
        worth("[0-7]%2+10", 9);
        worth("50000*50000/[1000*10000]", 0);
        worth("0-50000*50000/[1000*10000]-100", 79);
        worth("65536*65536+5", 5);
        worth("[0-32768*65536]/[0-1]/[0-32768*32768*2]+3", 4);
        worth("[0-32768*65536]%[0-1]+3", 3);
        worth("32768*65536-1-99999*21474", 99);
        worth("1+2*3-4*5/2+30", 27);
        worth("1-1*2*3+50", 45);
    }

    private static void holds(String c, boolean due) {
        DUE.is("(" + c + ")", lost("f9(" + c + ")"), due ? 9 : 0);
        DUE.is("x(" + c + ")", lost2("x(" + c + ")"), due ? 4 : 1);
    }

    private static int lost2(String law) {
        GrownInitials g = Due.common("0,0:A", law);
        return g.tried(1, 60);
    }

    private static void conditions() {
        holds("1<2", true);
        holds("2<2", false);
        holds("3>2", true);
        holds("2>2", false);
        holds("2=2", true);
        holds("0-1<0", true);
        holds("32768*65536<0", true);
        holds("!1=2", true);
        holds("!!1=2", false);
        holds("!(1=1&1=2)", true);
        holds("1=1&1=2|1=1", true);
        holds("1=1|1=2&1=2", true);
        holds("1=2|1=1&1=2", false);
        holds("1=2&1=1|1=2", false);
        holds("(1=1|1=1)&1=2", false);
        holds("(1=2|1=1)&1=1", true);
        holds("!1=2&1=2", false);
        holds("!(1=2|1=2)&1=1&!1=2", true);
        holds("1=2|1=2|1=1", true);
        holds("1=2|1=2|1=2", false);
        holds("1=1&1=1&1=1", true);
        holds("1=1&1=1&1=2", false);
        holds("1+1*2=3", true);
    }

    private static void dividing() {
        worth("5/0", 0);
        worth("5%0", 0);
        worth("9+5/0", 0);
        worth("9-[5-5]%[5-5]", 0);
        DUE.is("a refused E is the E of the first rule", lost("f5/0(1=1);f7(1=1)"), 0);
        DUE.is("a refused C goes to the next rule", lost("f5(1/0=1);f7(1=1)"), 7);
        holds("1/0=0", false);
        holds("!1/0=0", false);
        holds("1/0=0|1=1", false);
        holds("1=1|1/0=0", true);
        holds("1=2&1/0=0|1=1", true);
        holds("1=1&1/0=0|1=1", false);
        holds("!(1=2&1/0=0)", true);
        holds("(1=1|1%0=0)&1=1", true);
        holds("(1=1|1=1)&1%0=0|1=1", false);
        holds("!(1=1&1%0=0)", false);
        DUE.is("an E that is refused is not asked if its C does not hold", lost("f1/0(1=2);f3(1=1)"), 3);
    }

    private static void letters() {
        GrownInitials g = Due.common("0,0:A;2,0:[B];4,0:xC;6,0:D>", "f10*c(1=1)");
        DUE.is("c 0", g.tried(1, 40), 99);
        DUE.is("c 3", g.tried(1, 43), 69);
        DUE.is("c 1 in a heart", g.tried(1, 41), 94);
        Due.law(g, "f1+h*10+l*20+a*40(1=1)");
        DUE.is("no h, l, a", g.tried(1, 40), 98);
        DUE.is("h", g.tried(1, 41), 94);
        DUE.is("l", g.tried(1, 42), 78);
        DUE.is("a", g.tried(1, 43), 58);
        Due.law(g, "f1+s*10(1=1)");
        DUE.is("s 0", g.tried(1, 40), 98);
        DUE.is("s 1", g.tried(2, 40), 87);
        Due.law(g, "f100-m+1(1=1)");
        DUE.is("m", g.tried(1, 40), 97);
        DUE.is("m again", g.tried(2, 40), 93);
        Due.law(g, "f1(t=1);f20(t=99)");
        DUE.is("t 0", g.tried(1, 40), 99);
        DUE.is("t 1", g.tried(2, 40), 98);
        g = Due.common("0,0:A");
        g.home(0, 23, 15);
        g.seasons(99);
        Due.law(g, "f7(t=99);f5(t=0)");
        DUE.is("t 99", g.tried(1, 40), 92);
        DUE.is("t 100", g.tried(2, 40), 87);
        g = Due.common("3,4:A");
        g.home(0, 10, 0);
        Due.law(g, "f50+d(s=0)");
        DUE.is("d", g.tried(1, 40), 38);
        g.home(0, 4, 4);
        Due.law(g, "f50+d+k*10(s=2&k>0)");
        g.seasons(3);
        DUE.is("on the way back", g.cutIs(0, 12), 1);
        DUE.is("d to the tree, k", g.tried(1, 40), 38);
        g = Due.common("0,0:A;0,0:B;0,0:C;1,0:D", "f10*[n+1](s=2)");
        g.seasons(2);
        Due.law(g, "f10*[n+1](s=2);v0(1=1)");
        DUE.is("n of two others", g.tried(1, 40), 69);
        DUE.is("n of none", g.tried(1, 43), 89);
        g.home(0, 0, 9);
        Due.law(g, "f10*[n+1](s=2);v9(1=1)");
        DUE.is("n ahead of the steps", g.tried(1, 40), 69);
        DUE.is("n behind those of lower numbers", g.tried(1, 41), 79);
        g = Due.common("0,0:A;0,0:B", "f10*[w+1](1=1)");
        DUE.is("w of the first draw", g.tried(1, 40), 99 - 10 * (39022 % 10 + 1));
        DUE.is("w of the second one", g.tried(1, 41), 99 - 10 * ((25173 * 39022 + 13849) % 65536 % 10 + 1));
    }

    private static void firstRule() {
        DUE.is("the first that holds", lost("f1(1=2);f2(1=1);f3(1=1)"), 2);
        DUE.is("none that holds", lost("f1(1=2);f2(1=2)"), 0);
        GrownInitials g = Due.common("0,0:A;0,9:B>;0,0:xC;0,0:xD>;0,0:E");
        for (int c = 0; c < 5; c++) {
            g.home(c, 23, 9);
        }
        g.seasons(2);
        DUE.is("no v", g.tried(1, 20), 1);
        DUE.is("no v, arrow", g.tried(1, 21), 9 * 24 + 2);
        DUE.is("no v, crossed out", g.tried(1, 22), 0);
        DUE.is("no v, crossed out, arrow", g.tried(1, 23), 1);
        Due.law(g, "x(c=9);v7(c<4);x(c=4);v8(c=4);v99(c=0)");
        DUE.is("v7", g.tried(1, 20), 7);
        DUE.is("v7, arrow", g.tried(1, 21), 9 * 24 + 8);
        DUE.is("v7, crossed out", g.tried(1, 22), 3);
        DUE.is("v7, crossed out, arrow", g.tried(1, 23), 4);
        DUE.is("any x", g.tried(1, 2), 16);
        Due.law(g, "v99(c=0);v0-5(c=1)");
        DUE.is("v99 is 9", g.tried(1, 20), 9);
        DUE.is("v below 0 is 0, arrow", g.tried(1, 21), 9 * 24 + 1);
    }
}
