/** Bounds of THE LAW and of promise 4. */
final class LawBounds {
    private static final String WHOLE = "v[1+2]*c(!(c=0|m<9)&h>[0]);x(k/2%3-1=12345)";
    private static final String SIXTEEN = "x(1=0);".repeat(15) + "x(1=0)";
    private static final String LEAST = "[32768*65536]";
    private static final String MOST = "[32768*65536-1]";

    private final Bounds b;

    LawBounds(Bounds b) {
        this.b = b;
    }

    void ask() {
        b.part("Terms");
        text();
        whatARuleIs();
        steps();
        lost();
        felled();
        firstRule();
        conditions();
        worths();
        numberLetters();
        stateLetters();
        thirtyTwoBits();
        dividedByZero();
        asMuchAsMatters();
        whatCannotStand();
        sixthDigit();
        seventeenth();
        seventhOpen();
        promise();
    }

    private void right(String law, int rules) {
        GrownInitials g = new GrownInitials();
        b.is("law " + law, Due.law(g, law), rules);
        b.is("RULES of " + law, g.count(5), rules);
    }

    private void fault(String law, int number, int place) {
        b.emptiesTape(Due.bytesOf(law), "law " + law, g -> g.law(law.length()), -1000 * number - place);
    }

    /** Of a cut that is GROWING; a law that is not taken loses 0. */
    private static int lostBy(String law) {
        return 99 - Due.common("0,0:A", law).tried(1, 40);
    }

    /** Of a cut that is ABOUT and 23 steps from HOME. */
    private static int stepsBy(String law) {
        GrownInitials g = Due.common("0,0:A");
        g.home(0, 23, 0);
        g.seasons(2);
        Due.law(g, law);
        return g.tried(1, 20);
    }

    private void holds(String c, boolean isDue) {
        b.is("(" + c + ") of f", lostBy("f7(" + c + ")"), isDue ? 7 : 0);
        b.is("(" + c + ") of v", stepsBy("v7(" + c + ")"), isDue ? 7 : 1);
        b.is("(" + c + ") of x", Due.common("0,0:A", "x(" + c + ")").tried(1, 60), isDue ? 4 : 1);
    }

    private void text() {
        b.sentence("THE LAW: a TEXT of at most 240 bytes, no blanks (none at first): RULES (16 at most) with a ; (59) "
            + "between two:");
        b.is("RULES of a new one", new GrownInitials().count(5), 0);
        String longest = "v1" + "+1".repeat(116) + "(1=11)";
        b.is("bytes", longest.length(), 240);
        right(longest, 1);
        b.leavesAll(13, "law(241)", g -> g.law(241), -1);
        right(WHOLE, 2);
        for (int i = 0; i <= WHOLE.length(); i++) {
            fault(WHOLE.substring(0, i) + " " + WHOLE.substring(i), 1, i);
        }
        right("x(1=0)", 1);
        right("x(1=0);x(1=0)", 2);
        right(SIXTEEN, 16);
        fault(SIXTEEN + ";x(1=0)", 4, 112);
        fault(";x(1=0)", 1, 0);
        fault("x(1=0);;x(1=0)", 1, 7);
        fault("x(1=0);", 1, 7);
        fault("x(1=0)x(1=0)", 1, 6);
        b.is("the sixteenth RULE", lostBy("x(1=0);".repeat(15) + "f9(1=1)"), 9);
    }

    private void whatARuleIs() {
        b.sentence("a letter, E, and (C), of x only (C):");
        right("v1(1=1)", 1);
        right("f1(1=1)", 1);
        right("x(1=1)", 1);
        fault("v(1=1)", 1, 1);
        fault("f(1=1)", 1, 1);
        fault("x1(1=1)", 1, 1);
        fault("x[1](1=1)", 1, 1);
        fault("v1", 1, 2);
        fault("v1()", 1, 3);
        fault("x()", 1, 2);
        fault("x", 1, 1);
        fault("w1(1=1)", 1, 0);
        fault("u1(1=1)", 1, 0);
        fault("e1(1=1)", 1, 0);
        fault("g1(1=1)", 1, 0);
        fault("y(1=1)", 1, 0);
        fault("V1(1=1)", 1, 0);
    }

    private void steps() {
        b.sentence("v steps in a SEASON (0 to 9; none: 1),");
        b.is("v0", stepsBy("v0(1=1)"), 0);
        b.is("v1", stepsBy("v1(1=1)"), 1);
        b.is("v9", stepsBy("v9(1=1)"), 9);
        b.is("v10", stepsBy("v10(1=1)"), 9);
        b.is("v99999", stepsBy("v99999(1=1)"), 9);
        b.is("v0-1", stepsBy("v0-1(1=1)"), 0);
        b.is("the least v", stepsBy("v" + LEAST + "(1=1)"), 0);
        b.is("the most v", stepsBy("v" + MOST + "(1=1)"), 9);
        b.is("no v", stepsBy("f0(1=1)"), 1);
        b.is("no v that holds", stepsBy("v5(1=2)"), 1);
        GrownInitials g = Due.common("0,0:A");
        g.home(0, 23, 0);
        g.seasons(3);
        b.is("no LAW", g.cutIs(0, 8), 1);
    }

    private void lost() {
        b.sentence("f MEMORY lost in a SEASON (0 to 99; none: 0),");
        b.is("f0", lostBy("f0(1=1)"), 0);
        b.is("f1", lostBy("f1(1=1)"), 1);
        b.is("f98", lostBy("f98(1=1)"), 98);
        b.is("f99", lostBy("f99(1=1)"), 99);
        b.is("f100", lostBy("f100(1=1)"), 99);
        b.is("f99999", lostBy("f99999(1=1)"), 99);
        b.is("f0-1", lostBy("f0-1(1=1)"), 0);
        b.is("the least f", lostBy("f" + LEAST + "(1=1)"), 0);
        b.is("the most f", lostBy("f" + MOST + "(1=1)"), 99);
        b.is("no f", lostBy("v0(1=1)"), 0);
        b.is("no f that holds", lostBy("f5(1=2)"), 0);
        b.is("no LAW", 99 - Due.common("0,0:A").tried(100, 40), 0);
        b.is("f100 in a HEART is half of 99", Due.common("0,0:[A]", "f100(1=1)").tried(1, 40), 99 - 49);
    }

    private void felled() {
        b.sentence("x it is FELLED (any will do; without an x in THE LAW none is):");
        b.is("no LAW", Due.common("0,0:A").tried(100, 2), 0);
        b.is("no x", Due.common("0,0:A", "v1(1=1);f1(1=1)").tried(1, 2), 0);
        b.is("no x that holds", Due.common("0,0:A", "x(1=2);x(2=3)").tried(1, 2), 0);
        b.is("the first x", Due.common("0,0:A", "x(1=1);x(1=2)").tried(1, 2), 1);
        b.is("the last x", Due.common("0,0:A", "x(1=2);v1(1=1);x(1=1)").tried(1, 2), 1);
        b.is("the sixteenth x", Due.common("0,0:A", "x(1=0);".repeat(15) + "x(1=1)").tried(1, 2), 1);
        b.is("one of two", Due.common("0,0:A;0,0:B", "x(c=1);x(c=2)").tried(1, 2), 2);
        b.is("each by another x", Due.common("0,0:A;0,0:B", "x(c=1);x(c=0)").tried(1, 2), 3);
    }

    private void firstRule() {
        b.sentence("of the first RULE of v, f whose C holds the E (beyond its bounds the bound).");
        b.is("f of the first", lostBy("f2(1=1);f3(1=1)"), 2);
        b.is("f of the second", lostBy("f1(1=2);f2(1=1);f3(1=1)"), 2);
        b.is("f of the last", lostBy("f1(1=2);f2(1=2);f3(1=1)"), 3);
        b.is("f behind a v", lostBy("v1(1=1);f3(1=1)"), 3);
        b.is("v of the first", stepsBy("v2(1=1);v3(1=1)"), 2);
        b.is("v of the last", stepsBy("v1(1=2);f2(1=1);v3(1=1)"), 3);
        b.is("v beyond its bounds is not asked of the next", stepsBy("v10(1=1);v3(1=1)"), 9);
        b.is("v below its bounds is not asked of the next", stepsBy("v0-1(1=1);v3(1=1)"), 0);
        b.is("f beyond its bounds", lostBy("f100(1=1);f3(1=1)"), 99);
        b.is("f below its bounds", lostBy("f0-1(1=1);f3(1=1)"), 0);
    }

    private void conditions() {
        b.sentence("C: PARTS with a | between two, one of which must hold; a PART: TESTS with an & between two, all of "
            + "which must; a TEST: !TEST, (C), or E, one of < > =, and E.");
        holds("2<2", false);
        holds("1<2", true);
        holds("2>2", false);
        holds("3>2", true);
        holds("2=2", true);
        holds("2=3", false);
        holds("3=2", false);
        holds(LEAST + "<" + MOST, true);
        holds(MOST + "<" + LEAST, false);
        holds(LEAST + ">" + MOST, false);
        holds(MOST + ">" + LEAST, true);
        holds("1=2|1=2", false);
        holds("1=1|1=2", true);
        holds("1=2|1=1", true);
        holds("1=1&1=1", true);
        holds("1=1&1=2", false);
        holds("1=2&1=1", false);
        holds("1=2&1=2|1=1", true);
        holds("1=1|1=2&1=2", true);
        holds("1=2&(1=2|1=1)", false);
        holds("!1=2&1=2", false);
        holds("!(1=2&1=2)", true);
        holds("!1=1", false);
        holds("!1=2", true);
        holds("!2<3", false);
        holds("!3>2", false);
        holds("!!1=1", true);
        holds("!!1=2", false);
        holds("!!!1=2", true);
        holds("!(1=1)", false);
        holds("!(1=1|1=2)", false);
        fault("x(1=1|)", 1, 6);
        fault("x(|1=1)", 1, 2);
        fault("x(1=1||1=1)", 1, 6);
        fault("x(1=1&)", 1, 6);
        fault("x(&1=1)", 1, 2);
        fault("x(1=1&&1=1)", 1, 6);
        fault("x(!)", 1, 3);
        fault("x(1!=1)", 1, 3);
        fault("x(1)", 1, 3);
        fault("x(1<=1)", 1, 4);
        fault("x(1=1=1)", 1, 5);
        fault("x((1)=1)", 1, 4);
    }

    private void worths() {
        b.sentence("E: TERMS with + or - between two; a TERM: FACTORS with one of * / % between two; from the left on; "
            + "a FACTOR: [E], a number of one to five digits, or a letter:");
        b.is("20-5-3", lostBy("f20-5-3(1=1)"), 12);
        b.is("20-5+3", lostBy("f20-5+3(1=1)"), 18);
        b.is("90/4/5", lostBy("f90/4/5(1=1)"), 4);
        b.is("7/2*2", lostBy("f7/2*2(1=1)"), 6);
        b.is("17%5*4", lostBy("f17%5*4(1=1)"), 8);
        b.is("50-2*3*4", lostBy("f50-2*3*4(1=1)"), 26);
        b.is("20-[5-3]", lostBy("f20-[5-3](1=1)"), 18);
        b.is("[0-7]/2+9", lostBy("f[0-7]/2+9(1=1)"), 6);
        b.is("[0-7]%2+9", lostBy("f[0-7]%2+9(1=1)"), 8);
        b.is("one digit", lostBy("f9(1=1)"), 9);
        b.is("two digits", lostBy("f98(1=1)"), 98);
        b.is("five digits", lostBy("f00098(1=1)"), 98);
        b.is("the highest of five digits", lostBy("f99999-99990(1=1)"), 9);
        b.is("the lowest of five digits", lostBy("f00000+1(1=1)"), 1);
        fault("f000098(1=1)", 2, 6);
        fault("f+1(1=1)", 1, 1);
        fault("f-1(1=1)", 1, 1);
        fault("f1+(1=1)", 1, 3);
        fault("f1*(1=1)", 1, 3);
        fault("f1+-1(1=1)", 1, 3);
        fault("f[](1=1)", 1, 2);
        fault("f[1(1=1)", 1, 3);
        fault("f1](1=1)", 1, 2);
        fault("f12c(1=1)", 1, 3);
        fault("fcc(1=1)", 1, 2);
        for (char letter = 'a'; letter <= 'z'; letter++) {
            if ("csmhlakdntw".indexOf(letter) >= 0) {
                right("f" + letter + "(1=1)", 1);
            } else {
                fault("f" + letter + "(1=1)", 1, 1);
            }
        }
    }

    private void letters() {
        b.sentence("c the CUT, s 0 to 4 as above, m MEMORY, h 1 in a HEART (else 0), l 1 CROSSED OUT, a 1 with an "
            + "ARROW, k CALLS, d steps to where it goes (across and along added up), n how many other CUTS that are "
            + "ABOUT are at its PLACE, t THE SEASON modulo 100, w the DRAW.");
    }

    private void numberLetters() {
        letters();
        GrownInitials g = Due.common("0,0:A;".repeat(15) + "0,0:B", "f5*c(1=1)");
        b.is("c of the first", g.tried(1, 40), 99);
        b.is("c of the last", g.tried(1, 55), 99 - 75);
        Due.law(g, "v0(1=1);f5*n(s=2)");
        b.is("n of none ABOUT", g.tried(2, 55), 99);
        b.is("n of fifteen others", g.tried(3, 40), 99 - 75);
        b.is("n of the last", g.tried(3, 55), 99 - 75);
        Due.law(g, "v0(1=1);f5*n+1(s=1)");
        b.is("n ABOUT ahead of the last", g.tried(2, 55), 99 - 76);
        b.is("n ABOUT ahead of the first", g.tried(2, 40), 99 - 1);
        g = Due.common("0,0:A;1,0:B", "v0(1=1);f5*n+1(s=2)");
        b.is("n at another PLACE", g.tried(3, 40), 98);
        Due.law(g, "f1+h+l+a(1=1)");
        b.is("h, l, a 0", g.tried(1, 40), 98);
        g = Due.common("0,0:[A];0,0:xB;0,0:C>", "f2*h+4*l+8*a(1=1)");
        b.is("h 1, half of 2", g.tried(1, 40), 98);
        b.is("l 1", g.tried(1, 41), 95);
        b.is("a 1", g.tried(1, 42), 91);
        g = Due.common("0,0:A", "f1+w(1=1)");
        g.seed(0);
        b.is("w 9", g.tried(1, 40), 89);
        g.seed(25);
        b.is("w 0", g.tried(1, 40), 98);
    }

    private void stateLetters() {
        letters();
        GrownInitials g = Due.common("0,0:A", "f1+10*s(1=1)");
        b.is("s 0", g.tried(1, 40), 98);
        b.is("s 1", g.tried(2, 40), 98 - 11);
        g.seasons(2);
        b.is("s 2, MEMORY 99 by a call", g.tried(1, 40), 99 - 21);
        g = Due.common("0,0:A", "f98(m=99);f1(m=1)");
        b.is("m 99", g.tried(1, 40), 1);
        b.is("m 1", g.tried(2, 60), 3);
        g = Due.common("0,0:A;5,5:B", "f50+d(s=0)");
        g.home(0, 23, 15);
        b.is("d 38", g.tried(1, 40), 99 - 88);
        b.is("d 0", g.tried(1, 41), 99 - 50);
        g.home(0, 0, 15);
        b.is("d along", g.tried(1, 40), 99 - 65);
        g.home(0, 23, 0);
        b.is("d across", g.tried(1, 40), 99 - 73);
        timeLetter();
        callsLetter();
    }

    private void timeLetter() {
        GrownInitials g = Due.common("0,0:A", "f1(t=0);f2(t=1);f3(t=99);f4(t>99)");
        b.is("t 0", g.tried(1, 40), 98);
        g = Due.common("0,0:A");
        g.home(0, 23, 15);
        g.seasons(99);
        Due.law(g, "v0(1=1);f1(t=0);f2(t=1);f5(t=99);f9(t>99)");
        int memory = g.cutIs(0, 9);
        b.is("t 99", g.tried(1, 40), memory - 5);
        b.is("t 0 in season 100", g.tried(2, 40), memory - 6);
        b.is("t 1 in season 101", g.tried(3, 40), memory - 8);
        b.is("t 2 in season 102", g.tried(4, 40), memory - 8);
    }

    private void callsLetter() {
        GrownInitials g = Due.common("0,0:A>", "v9(1=1);f1(k=0);f50(k=9999);f60(k>9999)");
        b.is("k 0", g.tried(1, 40), 98);
        for (int i = 0; i < 19; i++) {
            g.seasons(100);
        }
        b.is("k 9999", g.tried(1, 40), 49);
    }

    private void thirtyTwoBits() {
        b.sentence("All is reckoned with 32 bits, as the machine does;");
        holds(MOST + ">0", true);
        holds(MOST + "+1<0", true);
        holds(MOST + "+1=" + LEAST, true);
        holds(LEAST + "-1>0", true);
        holds(LEAST + "-1=" + MOST, true);
        holds("0-" + LEAST + "=" + LEAST, true);
        holds("65536*65536=0", true);
        holds("65536*65535=0-65536", true);
        holds("99999*99999=14098*[99999+1]+65409", true);
        holds(LEAST + "*[0-1]=" + LEAST, true);
        holds(LEAST + "/[0-1]=" + LEAST, true);
        holds(LEAST + "%[0-1]=0", true);
        holds(MOST + "/" + LEAST + "=0", true);
        holds("[0-7]/2=0-3", true);
        holds("[0-7]%2=0-1", true);
        holds("7/[0-2]=0-3", true);
        holds("7%[0-2]=1", true);
        b.is("v by 32 bits", stepsBy("v65536*65536+5(1=1)"), 5);
        b.is("f by 32 bits", lostBy("f65536*65536+5(1=1)"), 5);
        b.is("f beyond 32 bits", lostBy("f" + MOST + "+1(1=1)"), 0);
    }

    private void dividedByZero() {
        b.sentence("what is divided by 0 is REFUSED: then the whole C of the RULE does not hold, the E of it is 0.");
        b.is("f5/1", lostBy("f5/1(1=1)"), 5);
        b.is("f5/0", lostBy("f5/0(1=1)"), 0);
        b.is("f5%0", lostBy("f5%0(1=1)"), 0);
        b.is("f9+5/0", lostBy("f9+5/0(1=1)"), 0);
        b.is("f5/0+9", lostBy("f5/0+9(1=1)"), 0);
        b.is("f9+[5%[3-3]]", lostBy("f9+[5%[3-3]](1=1)"), 0);
        b.is("f0/0", lostBy("f0/0(1=1)"), 0);
        b.is("f9+1/c of CUT 0", lostBy("f9+1/c(1=1)"), 0);
        b.is("f9+1/c of CUT 1", 99 - Due.common("0,0:A;0,0:B", "f9+1/c(1=1)").tried(1, 41), 10);
        b.is("v5/0 is 0, not 1", stepsBy("v5/0(1=1)"), 0);
        b.is("v5%0", stepsBy("v5%0(1=1)"), 0);
        b.is("the E of the next RULE is not asked", lostBy("f5/0(1=1);f7(1=1)"), 0);
        b.is("a C that does not hold leaves it to the next RULE", lostBy("f5(1/0=0);f7(1=1)"), 7);
        b.is("v, too", stepsBy("v5(1%0=0);v7(1=1)"), 7);
        holds("1/0=0", false);
        holds("1%0=0", false);
        holds("0/0=0", false);
        holds("0=1/0", false);
        holds("!1/0=0", false);
        holds("!(1/0=0)", false);
        holds("1/0=0|1=1", false);
        holds("(1/0=0)|1=1", false);
        holds("1=1&1/0=0|1=1", false);
        holds("1=2|1/0=0|1=1", false);
        holds("!(1=1&!1%0=0)", false);
        holds("1/[0-1]<0", true);
    }

    private void asMuchAsMatters() {
        b.sentence("Of a C as much is asked, from the left, as matters.");
        holds("1=1|1/0=0", true);
        holds("1=2|1/0=0", false);
        holds("1=1|1=1&1/0=0", true);
        holds("1=2&1/0=0|1=1", true);
        holds("1=2&1/0=0|1=2", false);
        holds("1=2&1=1&1/0=0|1=1", true);
        holds("1=1&1=2&1/0=0|1=1", true);
        holds("1=1&1=1&1/0=0|1=1", false);
        holds("!(1=2&1/0=0)", true);
        holds("!(1=1|1/0=0)|1=1", true);
        holds("(1=1|1/0=0)&1=1", true);
        holds("(1=1|1/0=0)&1/0=0", false);
        holds("1=2|1=1|1/0=0", true);
    }

    private void whatCannotStand() {
        b.sentence("FAULTS, the first from the left: 1 what can't stand there (the end, too); 2 a sixth digit, at it;");
        int firstWhole = WHOLE.indexOf(";");
        for (int end = 1; end < WHOLE.length(); end++) {
            if (end == firstWhole) {
                right(WHOLE.substring(0, end), 1);
            } else {
                fault(WHOLE.substring(0, end), 1, end);
            }
        }
        for (int at = 0; at < WHOLE.length(); at++) {
            fault(WHOLE.substring(0, at) + "?" + WHOLE.substring(at + 1), 1, at);
            fault(WHOLE.substring(0, at) + (char) 255 + WHOLE.substring(at + 1), 1, at);
            fault(WHOLE.substring(0, at) + (char) 0 + WHOLE.substring(at + 1), 1, at);
        }
        fault("x(?=1);v123456(1=1)", 1, 2);
        fault("v123456(?=1)", 2, 6);
        fault("v[[[[[[[1]]]]]]]+123456(?=1)", 5, 7);
        fault("v123456+[[[[[[[1]]]]]]](1=1)", 2, 6);
    }

    private void sixthDigit() {
        b.sentence("2 a sixth digit, at it;");
        right("v12345(1=1)", 1);
        right("x(12345=54321)", 1);
        fault("v123456(1=1)", 2, 6);
        fault("v1234567(1=1)", 2, 6);
        fault("v000001(1=1)", 2, 6);
        fault("v123456", 2, 6);
        fault("v1+123456(1=1)", 2, 8);
        fault("v[123456](1=1)", 2, 7);
        fault("x(123456=1)", 2, 7);
        fault("x(1=123456)", 2, 9);
        fault("x(1=1);f123456(1=1)", 2, 13);
    }

    private void seventeenth() {
        b.sentence("4 a 17th RULE, at its letter (if that can stand there);");
        right(SIXTEEN, 16);
        fault(SIXTEEN + ";v", 4, 112);
        fault(SIXTEEN + ";f123456", 4, 112);
        fault(SIXTEEN + ";x(((((((", 4, 112);
        fault(SIXTEEN + ";x(1=1)", 4, 112);
        fault(SIXTEEN + ";", 1, 112);
        fault(SIXTEEN + ";;", 1, 112);
        fault(SIXTEEN + ";c", 1, 112);
        fault(SIXTEEN + ";1", 1, 112);
        fault(SIXTEEN + "v", 1, 111);
    }

    private void seventhOpen() {
        b.sentence("5 a seventh of ( [ ! that are open in one another, at it (the ( of the RULE counts; a ! is open "
            + "till its TEST ends; the E of a RULE stands ahead of it).");
        right("x((((((1=1))))))", 1);
        fault("x(((((((1=1)))))))", 5, 7);
        fault("x(((((((", 5, 7);
        fault("x((((((1(", 1, 8);
        fault("x((((((1=(", 1, 9);
        right("v[[[[[[1]]]]]](1=1)", 1);
        fault("v[[[[[[[1]]]]]]](1=1)", 5, 7);
        fault("v1+[[[[[[[1]]]]]]](1=1)", 5, 9);
        right("v[[[[[[1]]]]]]((((((1=1))))))", 1);
        right("v[[[[[[1]]]]]]*[[[[[[1]]]]]](1=1)", 1);
        right("x([[[[[1]]]]]=[[[[[1]]]]])", 1);
        fault("x([[[[[[1]]]]]]=1)", 5, 7);
        fault("x(1=[[[[[[1]]]]]])", 5, 9);
        right("x(!!!!!1=1)", 1);
        fault("x(!!!!!!1=1)", 5, 7);
        fault("x(!!!!!!", 5, 7);
        right("x(!((((1=1)))))", 1);
        fault("x(!(((((1=1))))))", 5, 7);
        right("x(!([[[1]]]=1))", 1);
        fault("x(!([[[[1]]]]=1))", 5, 7);
        right("x(![[[[1]]]]=1)", 1);
        fault("x(![[[[[1]]]]]=1)", 5, 7);
        right("x(!1=[[[[1]]]])", 1);
        fault("x(!1=[[[[[1]]]]])", 5, 9);
        right("x(!1=1&[[[[[1]]]]]=1)", 1);
        right("x(!1=1|(((((1=1))))))", 1);
        right("x(!!!!!1=1&!!!!!1=1|(((((1=1))))))", 1);
        right("x((!1=1)&(!(!(1=1))))", 1);
        fault("x((!1=1)&(!(!(!1=1))))", 5, 14);
        fault("x(((((([1]=1))))))", 5, 7);
        fault("x((((((!1=1))))))", 5, 7);
        fault("x(1=1);x(((((((1=1)))))))", 5, 14);
    }

    private void promise() {
        b.promise(4);
        b.sentence("THE LAW by the first n bytes of the tape (1 to 240; empty then), in place of the one before: how "
            + "many RULES; a FAULT: -1000 times its number, less its place (the one before stays); NONE: no such n, it "
            + "has not so many (the tape stays).");
        for (int n : new int[] {0, -1, 241, 260, 261, Integer.MIN_VALUE, Integer.MAX_VALUE}) {
            b.leavesAll(13, "law(" + n + ")", g -> g.law(n), -1);
        }
        b.leavesAll(0, "law(1) of an empty tape", g -> g.law(1), -1);
        b.leavesAll(0, "law(0) of an empty tape", g -> g.law(0), -1);
        b.leavesAll(1, "law(21) of 20 bytes", g -> g.law(21), -1);
        b.leavesAll(11, "law(221) of 220 bytes", g -> g.law(221), -1);
        b.leavesAll(11, "law(240) of 220 bytes", g -> g.law(240), -1);
        b.emptiesTape(Due.bytesOf("x"), "law(1)", g -> g.law(1), -1001);
        b.emptiesTape(Due.bytesOf("?".repeat(260)), "law(240)", g -> g.law(240), -1000);
        String longest = "v1" + "+1".repeat(115) + "*00(1=1)";
        b.emptiesTape(Due.bytesOf(longest), "a fault far behind", g -> g.law(239), -1239);
        GrownInitials g = Look.grown(0);
        b.is("RULES before", g.count(5), 4);
        Due.feed(g, Due.bytesOf("f9(1=1)".concat(";".repeat(253))));
        b.is("law(7) of 260 bytes", g.law(7), 1);
        b.is("RULES in place of those before", g.count(5), 1);
        b.is("the tape is empty", g.count(6), 0);
        int memory = g.cutIs(2, 9);
        b.is("none of the RULES before", g.tried(1, 42), memory - 9);
        b.is("law of 240 bytes", Due.law(g, longest), 1);
        b.is("the tape is empty, too", g.count(6), 0);
    }
}
