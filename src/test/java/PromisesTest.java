/** Each promise by hand: ordinary inputs, the edges that the document names, wrong inputs. */
public final class PromisesTest {
    private static final int BAD = -1, NO = -2, FULL = -3, NONE = -4;
    private static final Check check = new Check();

    public static void main(String[] args) {
        aNewObject();
        writeAndWipe();
        fault();
        faultOfRanges();
        lay();
        clog();
        feet();
        pass();
        come();
        go();
        hole();
        undo();
        mates();
        pairs();
        pairsOfSeveralWays();
        leftOver();
        served();
        whose();
        alikeBy();
        dry();
        sawn();
        sizes();
        heardForgetThick();
        whole();
        together();
        year();
        keepAndBack();
        count();
        check.end("PromisesTest");
    }

    private static void due(String call, long got, long want) {
        check.due(call, got, want);
    }

    private static void row(String of, LeftAndRight x, int i, int... want) {
        for (int what = 0; what < want.length; what++) {
            due(of + ": clog(" + i + ", " + what + ")", x.clog(i, what), want[what]);
        }
    }

    private static void counts(String of, LeftAndRight x, int... want) {
        for (int what = 0; what < want.length; what++) {
            due(of + ": count(" + what + ")", x.count(what), want[what]);
        }
    }

    // Promise 1
    private static void aNewObject() {
        LeftAndRight x = new LeftAndRight();
        counts("new", x, 7, 2, 0, 2, 1, 0, 0, 0, 0, 2);
        row("new", x, 0, 0, 0, 40, 10, 0);
        row("new", x, 1, 1, 0, 48, 14, 0);
        row("new", x, 2, 0, 1, 41, 11, 0);
        row("new", x, 3, 2, 1, 44, 9, 0);
        row("new", x, 4, 3, 1, 44, 14, 0);
        row("new", x, 5, 1, 1, 36, 13, 0);
        row("new", x, 6, 0, 0, 33, 8, 0);
        due("new: feet(0, 0)", x.feet(0, 0), 38);
        due("new: feet(0, 1)", x.feet(0, 1), 39);
        due("new: feet(1, 0)", x.feet(1, 0), 42);
        due("new: feet(1, 1)", x.feet(1, 1), 40);
        due("new: sawn(-1)", x.sawn(-1), 3);
        due("new: wipe()", x.wipe(), 0);
        due("new: fault()", x.fault(), NONE);
        due("new: undo()", x.undo(), NO);
        due("new: back()", x.back(), NO);
        due("new: forget()", x.forget(), 0);
        LeftAndRight other = new LeftAndRight();
        x.pass(5);
        due("another object's day", other.count(2), 0);
    }

    // Promises 2, 3
    private static void writeAndWipe() {
        LeftAndRight x = new LeftAndRight();
        due("write(31)", x.write(31), BAD);
        due("write(127)", x.write(127), BAD);
        due("write(-1)", x.write(-1), BAD);
        due("write(65536 + 99)", x.write(65536 + 99), BAD);
        due("write(32)", x.write(32), 1);
        due("write(126)", x.write(126), 2);
        due("wipe()", x.wipe(), 2);
        due("wipe() of none", x.wipe(), 0);
        for (int i = 1; i <= 200; i++) {
            due("write, letter " + i, x.write('c'), i);
        }
        due("write, letter 201", x.write('c'), FULL);
        due("write(31) when full", x.write(31), BAD);
        due("count(8)", x.count(8), 200);
        due("wipe() of 200", x.wipe(), 200);
        due("write behind wipe", x.write('c'), 1);
        due("clogs behind wipe", x.count(0), 7);
    }

    private static void faultOf(String text, int want) {
        LeftAndRight x = Check.write(new LeftAndRight(), text);
        due("fault of " + text, x.fault(), want);
        due("lay of " + text, x.lay() == NO ? 1 : 0, want == NONE && text.indexOf('c') >= 0 ? 0 : 1);
    }

    // Promise 4
    private static void fault() {
        faultOf("", NONE);
        faultOf("c0,0,30,5;", NONE);
        faultOf("s00;k09;c00,01,30,05;", NONE);
        faultOf("f30,30;", NONE);
        faultOf("c0,0,30,5;c", 10);
        faultOf("c0,0,30,5;c0", 10);
        faultOf("c0,0,30,5;c0,0,30,5", 10);
        faultOf("c0,0,30,5,;", 0);
        faultOf("c0,0,30,5,1;", 0);
        faultOf("c0,0,30,5,1,1;", 0);
        faultOf("c0,0,30;", 0);
        faultOf("c0,0,,5;", 0);
        faultOf("c,0,30,5;", 0);
        faultOf("c0,0,030,5;", 0);
        faultOf("c0,0,30,005;", 0);
        faultOf("c0,0,30, 5;", 0);
        faultOf("c0,0,30,-5;", 0);
        faultOf("c0,0,30,5:", 0);
        faultOf("c0,0,30,5;;", 10);
        faultOf("c0,0,30,5; k1;", 10);
        faultOf("C0,0,30,5;", 0);
        faultOf("x1;", 0);
        faultOf("1;", 0);
        faultOf("k1;s1;z1;k1;z1;", 6);
        faultOf("k1;s9;k50;", 3);
        faultOf("k1;cc0,0,30,5;", 3);
        faultOf("k;", 0);
        faultOf("k1,2;", 0);
        faultOf("s1,2;", 0);
        faultOf("f30;", 0);
        faultOf("f30,30,30;", 0);
        faultOf("g20;", 0);
        faultOf("g20,4,4;", 0);
    }

    private static void faultOfRanges() {
        String[] so = {"c3,1,72,40;", "c0,0,12,1;", "f10,72;", "f72,10;", "g1,2;", "g40,9;", "k0;", "k39;", "s0;", "s6;",
            "k5;k5;", "g9,3;g8,2;", "s1;s2;"};
        for (String item : so) {
            faultOf(item, NONE);
            faultOf("k0;" + item, NONE);
        }
        String[] notSo = {"c4,0,30,5;", "c0,2,30,5;", "c0,0,11,5;", "c0,0,73,5;", "c0,0,30,0;", "c0,0,30,41;", "f9,30;",
            "f73,30;", "f30,9;", "f30,73;", "g0,4;", "g41,4;", "g20,1;", "g20,10;", "k40;", "k99;", "s7;", "s60;"};
        for (String item : notSo) {
            faultOf(item, 0);
            faultOf("k0;" + item, 3);
        }
        String clogs = "";
        for (int i = 0; i < 10; i++) {
            clogs += "c0,0,30,5;";
        }
        faultOf(clogs, NONE);
        faultOf(clogs + "c0,0,30,5;", 100);
        faultOf("f30,30;f30,30;f30,30;f30,30;f30,30;", NONE);
        faultOf("f30,30;f30,30;f30,30;f30,30;f30,30;f30,30;", 35);
    }

    // Promise 5
    private static void lay() {
        LeftAndRight x = new LeftAndRight();
        due("lay() of no text", x.lay(), NO);
        Check.write(x, "f30,30;");
        due("lay() without a clog", x.lay(), NO);
        Check.write(x, "c0,0,30,5;f9,30;");
        x.pass(7);
        x.keep();
        x.heard(3, 4, 1);
        due("lay() with a fault", x.lay(), NO);
        counts("not laid", x, 7, 2, 7, 2, 1, 1, 1, 1, 16, 2);
        Check.write(x, "c0,0,30,5;c2,1,31,6;");
        due("lay()", x.lay(), 2);
        counts("laid", x, 2, 0, 0, 0, 1, 0, 0, 0, 20, 2);
        due("thick(3) when laid", x.thick(3), 1022);
        due("undo() when laid", x.undo(), NO);
        due("back() when laid", x.back(), NO);
        row("laid", x, 1, 2, 1, 31, 6, 0);
        due("clog(2, 0)", x.clog(2, 0), BAD);
        due("feet(0, 0)", x.feet(0, 0), BAD);
        due("sawn(-1), 20 by 4 without", x.sawn(-1), 5);
        x.pass(60);
        due("lay() once more", x.lay(), 2);
        due("the day then", x.count(2), 0);
        x = Check.laid("c0,0,30,5;s5;g9,3;k3;g40,4;k25;s6;k39;k3;");
        due("of several the last S", x.count(9), 6);
        Check.write(x, "c0,0,30,5;f30,30;").lay();
        counts("nothing of an earlier text is left", x, 1, 1, 0, 0, 0, 0, 0, 0, 17, 2);
        due("its log", x.sawn(-1), 5);
        x = Check.laid("c0,0,30,5;s5;g9,3;k3;g40,4;k25;s6;k39;k3;");
        due("of several the last log", x.sawn(-1), 8);
        due("its knots", x.count(3), 3);
    }

    // Promise 6
    private static void clog() {
        LeftAndRight x = Check.laid("c1,0,72,40;c0,1,72,40;c2,0,72,40;c3,1,72,40;c1,1,12,1;");
        row("day 0", x, 0, 1, 0, 72, 40, 0);
        row("day 0", x, 3, 3, 1, 72, 42, 0);
        x.pass(4);
        row("day 4", x, 0, 1, 0, 72, 39, 0);
        x.pass(1);
        row("day 5", x, 0, 1, 0, 71, 38, 0);
        x.pass(24);
        row("day 29", x, 0, 1, 0, 67, 28, 0);
        row("day 29", x, 4, 1, 1, 12, 1, 0);
        x.pass(1);
        row("day 30", x, 0, 1, 0, 66, 27, 0);
        row("day 30", x, 4, 1, 1, 11, 1, 0);
        x.come(1, 0, 36, 30);
        x.pass(10);
        row("day 40", x, 0, 1, 0, 66, 27, 0);
        row("day 40", x, 1, 0, 1, 72, 40, 0);
        row("day 40", x, 2, 2, 0, 72, 40, 0);
        row("day 40", x, 3, 3, 1, 72, 42, 0);
        row("day 40, came on day 30", x, 5, 1, 0, 35, 27, 30);
        x.come(1, 0, 59, 30);
        x.pass(30);
        row("30 days behind", x, 6, 1, 0, 55, 20, 40);
        x.pass(1);
        row("31 days behind", x, 6, 1, 0, 55, 20, 40);
        x.come(1, 0, 30, 12);
        x.pass(60);
        row("60 days behind", x, 7, 1, 0, 28, 8, 71);
        x = Check.laid("c1,0,72,40;c0,1,72,40;c2,0,72,40;c3,1,72,40;c1,1,12,1;c0,0,30,5;");
        due("clog(-1, 0)", x.clog(-1, 0), BAD);
        due("clog(6, 0)", x.clog(6, 0), BAD);
        due("clog(0, -1)", x.clog(0, -1), BAD);
        due("clog(0, 5)", x.clog(0, 5), BAD);
    }

    // Promise 7
    private static void feet() {
        LeftAndRight x = Check.laid("c0,0,30,5;f10,72;f11,12;f13,14;f15,16;f17,18;");
        int[] want = {10, 72, 11, 12, 13, 14, 15, 16, 17, 18};
        for (int i = 0; i < want.length; i++) {
            due("feet(" + i / 2 + ", " + i % 2 + ")", x.feet(i / 2, i % 2), want[i]);
        }
        due("feet(5, 0)", x.feet(5, 0), BAD);
        due("feet(-1, 0)", x.feet(-1, 0), BAD);
        due("feet(0, 2)", x.feet(0, 2), BAD);
        due("feet(0, -1)", x.feet(0, -1), BAD);
    }

    // Promise 8
    private static void pass() {
        LeftAndRight x = new LeftAndRight();
        due("pass(0)", x.pass(0), BAD);
        due("pass(61)", x.pass(61), BAD);
        due("pass(-1)", x.pass(-1), BAD);
        due("nothing to undo", x.count(6), 0);
        due("pass(1)", x.pass(1), 1);
        for (int i = 1; i <= 16; i++) {
            due("pass(60)", x.pass(60), 1 + 60 * i);
        }
        due("pass(39) from 961", x.pass(39), NO);
        due("pass(61) from 961", x.pass(61), BAD);
        due("pass(38) from 961", x.pass(38), 999);
        due("pass(1) from 999", x.pass(1), NO);
        due("the day", x.count(2), 999);
        due("undo()", x.undo(), 7);
        due("the day then", x.count(2), 961);
    }

    // Promise 9
    private static void come() {
        LeftAndRight x = Check.laid("c0,0,30,5;");
        int[][] bad = {{-1, 0, 30, 5}, {4, 0, 30, 5}, {0, -1, 30, 5}, {0, 2, 30, 5}, {0, 0, 11, 5}, {0, 0, 73, 5},
            {0, 0, 30, 0}, {0, 0, 30, 41}};
        for (int[] c : bad) {
            due("come, bad", x.come(c[0], c[1], c[2], c[3]), BAD);
        }
        due("clogs", x.count(0), 1);
        x.pass(3);
        due("come(3, 1, 72, 40)", x.come(3, 1, 72, 40), 1);
        due("come(2, 0, 12, 1)", x.come(2, 0, 12, 1), 2);
        row("came", x, 1, 3, 1, 72, 42, 3);
        row("came", x, 2, 2, 0, 12, 1, 3);
        for (int i = 3; i < 10; i++) {
            due("come", x.come(0, 0, 30, 5), i);
        }
        due("come, an eleventh", x.come(0, 0, 30, 5), FULL);
        for (int[] c : bad) {
            due("come, bad when full", x.come(c[0], c[1], c[2], c[3]), BAD);
        }
        due("clogs then", x.count(0), 10);
    }

    // Promise 10
    private static void go() {
        LeftAndRight x = Check.laid("c0,1,30,5;c0,0,31,8;c0,1,29,4;c0,0,30,9;c2,0,30,5;c0,0,32,5;c1,1,60,5;");
        due("go(-1, 0)", x.go(-1, 0), BAD);
        due("go(1, 7)", x.go(1, 7), BAD);
        due("go(7, 0)", x.go(7, 0), BAD);
        due("go(1, -1)", x.go(1, -1), BAD);
        due("go, sides changed", x.go(0, 1), NO);
        due("go, two lefts", x.go(1, 3), NO);
        due("go, one twice", x.go(1, 1), NO);
        due("go, weights 4 apart", x.go(3, 0), NO);
        due("go, a holed one", x.go(4, 0), NO);
        due("go, sizes 2 apart", x.go(1, 2), NO);
        due("go, sizes 2 apart the other way", x.go(5, 0), NO);
        due("nothing to undo", x.count(6), 0);
        due("go(1, 0)", x.go(1, 0), 5);
        row("behind", x, 0, 0, 1, 29, 4, 0);
        row("behind", x, 1, 0, 0, 30, 9, 0);
        row("behind", x, 2, 2, 0, 30, 5, 0);
        row("behind", x, 3, 0, 0, 32, 5, 0);
        row("behind", x, 4, 1, 1, 60, 5, 0);
        due("clog(5, 0)", x.clog(5, 0), BAD);
        x = Check.laid("c0,0,50,5;c0,1,60,6;c0,0,30,5;c0,1,70,7;c0,1,30,5;c1,0,40,8;");
        due("go, others before, between and behind", x.go(2, 4), 4);
        row("before", x, 0, 0, 0, 50, 5, 0);
        row("before", x, 1, 0, 1, 60, 6, 0);
        row("between", x, 2, 0, 1, 70, 7, 0);
        row("behind", x, 3, 1, 0, 40, 8, 0);
        x = Check.laid("c0,0,30,5;c0,1,30,5;");
        due("go, the last two", x.go(0, 1), 0);
        due("go from none", x.go(0, 1), BAD);
        due("mates of none", x.mates(0), BAD);
        due("pairs of none", x.pairs(-1), 0);
        due("apart of none", x.pairs(-2), 0);
        due("pairs(0) of none", x.pairs(0), BAD);
        due("served of none", x.served(), 0);
        due("sizes(5, 0) of none", x.sizes(5, 0), 1);
        due("sizes(5, 1) of none", x.sizes(5, 1), 0);
        due("come to none", x.come(0, 0, 30, 5), 0);
    }

    // Promise 11
    private static void hole() {
        LeftAndRight x = Check.laid("c0,0,30,5;c1,0,60,30;c2,0,30,5;c3,0,30,5;");
        x.pass(30);
        row("green", x, 1, 1, 0, 55, 20, 0);
        due("hole(-1)", x.hole(-1), BAD);
        due("hole(4)", x.hole(4), BAD);
        due("hole(2)", x.hole(2), NO);
        due("hole(0)", x.hole(0), 0);
        due("hole(1)", x.hole(1), 1);
        due("hole(3)", x.hole(3), 3);
        row("holed", x, 1, 2, 0, 60, 30, 0);
        row("holed", x, 3, 2, 0, 30, 5, 0);
        due("hole(0) once more", x.hole(0), NO);
        due("holed ones", x.count(4), 4);
        due("undo()", x.undo(), 3);
        row("no longer holed", x, 3, 3, 0, 30, 7, 0);
        x.undo();
        row("no longer holed", x, 1, 1, 0, 55, 20, 0);
    }

    // Promise 12
    private static void undo() {
        LeftAndRight x = Check.laid("c0,0,30,5;c0,1,30,5;c1,0,60,30;");
        due("undo() of nothing", x.undo(), NO);
        x.pass(60);
        x.go(0, 1);
        x.come(3, 1, 40, 7);
        x.hole(0);
        x.pass(0);
        x.go(0, 0);
        x.hole(0);
        x.come(9, 9, 9, 9);
        due("what fails is not undone", x.count(6), 4);
        due("undo() of a hole", x.undo(), 3);
        row("then", x, 0, 1, 0, 55, 20, 0);
        due("undo() of one that came", x.undo(), 2);
        due("clogs then", x.count(0), 1);
        due("undo() of two that went", x.undo(), 1);
        row("back again", x, 0, 0, 0, 30, 5, 0);
        row("back again", x, 1, 0, 1, 30, 5, 0);
        row("back again", x, 2, 1, 0, 55, 20, 0);
        due("undo() of 60 days", x.undo(), 0);
        due("the day then", x.count(2), 0);
        due("undo() of no more", x.undo(), NO);
        for (int i = 1; i <= 11; i++) {
            x.pass(i);
            due("can be undone", x.count(6), Math.min(i, 8));
        }
        int day = 66;
        for (int i = 11; i > 3; i--) {
            due("undo() of the last eight", x.undo(), i - 4);
            day -= i;
            due("the day", x.count(2), day);
        }
        due("undo() of a ninth", x.undo(), NO);
        due("the day", x.count(2), 6);
        x.heard(0, 3, 1);
        x.pass(1);
        x.undo();
        due("what is heard is not undone", x.count(5), 1);
    }

    // Promise 13
    private static void mates() {
        LeftAndRight x = Check.laid("c0,0,30,5;c0,1,31,8;c0,1,29,2;c0,1,32,5;c0,1,30,9;c2,1,30,5;c0,0,30,5;c3,1,30,6;c3,1,30,7;");
        due("mates(0)", x.mates(0), 2 + 4 + 128);
        due("mates(1)", x.mates(1), 1 + 64);
        due("mates(3), too large", x.mates(3), 0);
        due("mates(4), too heavy", x.mates(4), 0);
        due("mates(5), holed", x.mates(5), 0);
        due("mates(8), a butt too heavy", x.mates(8), 0);
        due("mates(-1)", x.mates(-1), BAD);
        due("mates(9)", x.mates(9), BAD);
        x = Check.laid("c1,0,36,9;c0,1,34,9;");
        x.pass(9);
        due("mates(0) on day 9", x.mates(0), 0);
        x.pass(1);
        due("mates(0) on day 10", x.mates(0), 2);
        due("mates(1) on day 10", x.mates(1), 1);
    }

    private static void partners(String of, LeftAndRight x, int number, int apart, int... partners) {
        due(of + ": pairs(-1)", x.pairs(-1), number);
        due(of + ": pairs(-2)", x.pairs(-2), apart);
        for (int k = 0; k < partners.length; k++) {
            due(of + ": pairs(" + k + ")", x.pairs(k), partners[k]);
        }
    }

    // Promise 14
    private static void pairs() {
        LeftAndRight x = Check.laid("c0,0,30,5;c0,1,31,5;c0,1,30,5;");
        partners("least apart", x, 1, 0, 2, NONE, 0);
        due("pairs(-3)", x.pairs(-3), BAD);
        due("pairs(3)", x.pairs(3), BAD);
        x = Check.laid("c0,0,30,5;c0,0,31,5;c0,1,30,5;c0,1,29,5;");
        partners("most, though more apart", x, 2, 2, 3, 2, 1, 0);
        x = Check.laid("c0,0,30,5;c0,0,30,5;c0,1,30,5;c0,1,30,5;");
        partners("lowest right to lowest left", x, 2, 0, 2, 3, 0, 1);
        x = Check.laid("c0,1,30,5;c0,0,30,5;c0,0,30,5;");
        partners("none behind all", x, 1, 0, 1, 0, NONE);
        x = Check.laid("c2,1,30,5;c0,0,30,5;c0,1,30,9;");
        partners("no pair", x, 0, 0, NONE, NONE, NONE);
    }

    private static void pairsOfSeveralWays() {
        LeftAndRight x = Check.laid("c0,0,31,5;c0,0,30,5;c0,1,30,5;c0,1,30,5;");
        partners("of two ways the first", x, 2, 1, 2, 3, 0, 1);
        x = Check.laid("c0,0,30,5;c0,0,30,8;c0,1,30,5;c0,1,30,9;");
        partners("by weight", x, 2, 0, 2, 3, 0, 1);
        x = Check.laid("c0,0,30,8;c0,0,30,5;c0,1,30,5;c0,1,30,11;");
        partners("by weight, crossed", x, 2, 0, 3, 2, 1, 0);
        x = Check.laid("c0,0,31,5;c0,0,30,5;c0,1,30,5;");
        partners("the nearer left, though behind", x, 1, 0, NONE, 2, 1);
        x = Check.laid("c0,0,31,5;c0,0,29,5;c0,1,30,5;");
        partners("as near, the first left", x, 1, 1, 2, NONE, 0);
    }

    // Promise 15
    private static void leftOver() {
        LeftAndRight x = Check.laid("c0,0,30,5;c0,1,30,5;c0,1,30,5;c2,1,30,5;c2,0,30,5;c0,1,60,5;");
        due("leftOver(0)", x.leftOver(0), 1);
        due("leftOver(1)", x.leftOver(1), 3);
        due("leftOver(2)", x.leftOver(2), BAD);
        due("leftOver(-1)", x.leftOver(-1), BAD);
        x.hole(0);
        due("leftOver(0) then", x.leftOver(0), 2);
        due("leftOver(1) then", x.leftOver(1), 4);
    }

    private static void servedOf(String text, int want) {
        due("served() of " + text, Check.laid(text).served(), want);
    }

    // Promise 16
    private static void served() {
        servedOf("c0,0,30,5;c0,1,30,5;", 0);
        servedOf("c0,0,30,5;c0,1,30,5;f28,28;", 1);
        servedOf("c0,1,30,5;c0,0,30,5;f28,28;", 1);
        servedOf("c0,0,30,5;c0,1,30,5;f29,28;", 0);
        servedOf("c0,0,30,5;c0,1,30,5;f28,29;", 0);
        servedOf("c0,0,30,5;c0,1,30,5;f24,24;", 1);
        servedOf("c0,0,30,5;c0,1,30,5;f23,24;", 0);
        servedOf("c0,0,30,5;c0,1,30,5;f24,23;", 0);
        servedOf("c0,0,30,5;c0,1,30,5;f24,24;s6;", 1);
        servedOf("c0,0,30,5;c0,1,30,5;f25,24;s6;", 0);
        servedOf("c0,0,30,5;c0,1,30,5;f30,30;s0;", 1);
        servedOf("c0,0,30,5;c0,1,30,5;f28,28;f28,28;", 1);
        servedOf("c0,0,30,5;c0,1,32,5;f28,28;", 0);
        servedOf("c0,0,30,5;c2,1,30,5;f28,28;", 0);
        servedOf("c0,0,30,5;c0,1,30,5;c0,0,31,5;c0,1,31,5;f28,28;f29,29;", 2);
        servedOf("c0,0,34,5;c0,1,34,5;c0,0,33,5;c0,1,33,5;f29,29;f32,32;", 2);
        servedOf("c0,0,34,5;c0,1,34,5;c0,0,33,5;c0,1,33,5;f32,32;f32,32;", 1);
        servedOf("c0,0,30,5;c0,1,31,5;c0,0,31,9;c0,1,30,9;f28,28;f28,28;", 2);
        servedOf("c0,0,30,5;c0,1,31,5;c0,0,31,9;c0,1,30,9;f28,28;f29,29;", 1);
        LeftAndRight x = Check.laid("c1,0,36,9;c1,1,36,9;f34,34;");
        due("served() on day 0", x.served(), 1);
        x.pass(10);
        due("served() on day 10", x.served(), 0);
    }

    // Promise 17
    private static void whose() {
        LeftAndRight x = Check.laid("c0,0,30,5;c2,1,30,5;c1,0,36,5;f28,29;f29,28;f24,23;f23,24;f34,10;");
        due("whose(0)", x.whose(0), 1 + 4);
        due("whose(1)", x.whose(1), 2 + 8);
        due("whose(2)", x.whose(2), 16);
        x.pass(30);
        due("whose(2) dried", x.whose(2), 1 + 2);
        due("whose(3)", x.whose(3), BAD);
        due("whose(-1)", x.whose(-1), BAD);
        due("whose(0) without feet", Check.laid("c0,0,30,5;").whose(0), 0);
    }

    // Promise 18
    private static void alikeBy() {
        LeftAndRight x = Check.laid("c1,0,36,9;c0,1,35,9;c0,1,34,9;c0,1,33,9;c0,1,32,9;c2,1,36,9;c0,1,33,3;");
        due("alikeBy(0, 1)", x.alikeBy(0, 1), 0);
        due("alikeBy(0, 2)", x.alikeBy(0, 2), 10);
        due("alikeBy(0, 3)", x.alikeBy(0, 3), 20);
        due("alikeBy(0, 4)", x.alikeBy(0, 4), 30);
        due("alikeBy(0, 5)", x.alikeBy(0, 5), NONE);
        due("alikeBy(0, 6)", x.alikeBy(0, 6), 30);
        due("alikeBy(1, 0)", x.alikeBy(1, 0), BAD);
        due("alikeBy(0, 0)", x.alikeBy(0, 0), BAD);
        due("alikeBy(1, 2)", x.alikeBy(1, 2), BAD);
        due("alikeBy(0, 7)", x.alikeBy(0, 7), BAD);
        due("alikeBy(-1, 1)", x.alikeBy(-1, 1), BAD);
        x.pass(7);
        due("alikeBy(0, 4) 7 days on", x.alikeBy(0, 4), 23);
        due("it passes no day", x.count(2), 7);
        x.hole(0);
        due("alikeBy(0, 1), holed", x.alikeBy(0, 1), NONE);
    }

    // Promise 19
    private static void dry() {
        LeftAndRight x = Check.laid("c1,0,45,20;c0,0,45,20;c2,0,45,20;c3,0,45,20;c1,1,12,40;c1,0,72,40;");
        due("dry(0, 0)", x.dry(0, 0), 24);
        due("dry(0, 1)", x.dry(0, 1), 42);
        for (int i = 1; i < 4; i++) {
            due("dry, not green", x.dry(i, 0), 0);
            due("dry, not green, smallest", x.dry(i, 1), 45);
        }
        due("dry(4, 0)", x.dry(4, 0), 30);
        due("dry(4, 1)", x.dry(4, 1), 11);
        due("dry(5, 0)", x.dry(5, 0), 30);
        due("dry(5, 1)", x.dry(5, 1), 66);
        due("dry(6, 0)", x.dry(6, 0), BAD);
        due("dry(-1, 0)", x.dry(-1, 0), BAD);
        due("dry(0, 2)", x.dry(0, 2), BAD);
        due("dry(0, -1)", x.dry(0, -1), BAD);
        x.pass(20);
        due("dry(0, 0) 20 days on", x.dry(0, 0), 4);
        x.pass(20);
        due("dry(0, 0) 40 days on", x.dry(0, 0), 0);
        due("dry(0, 1) 40 days on", x.dry(0, 1), 42);
        x.hole(0);
        due("dry(0, 1) holed", x.dry(0, 1), 45);
    }

    private static void sawnOf(String log, int... begins) {
        LeftAndRight x = Check.laid("c0,0,30,5;" + log);
        due("sawn(-1) of " + log, x.sawn(-1), begins.length);
        for (int k = 0; k < begins.length; k++) {
            due("sawn(" + k + ") of " + log, x.sawn(k), begins[k]);
        }
        due("sawn(" + begins.length + ") of " + log, x.sawn(begins.length), NONE);
    }

    // Promise 20
    private static void sawn() {
        sawnOf("", 0, 4, 8, 12, 16);
        sawnOf("g1,2;");
        sawnOf("g2,2;", 0);
        sawnOf("g8,9;");
        sawnOf("g9,9;", 0);
        sawnOf("g9,4;k0;", 1, 5);
        sawnOf("g9,4;k4;", 0, 5);
        sawnOf("g9,4;k3;", 4);
        sawnOf("g8,4;k3;", 4);
        sawnOf("g8,4;k7;", 0);
        sawnOf("g8,4;k8;", 0, 4);
        sawnOf("g40,9;k39;", 0, 9, 18, 27);
        sawnOf("g40,8;k39;k8;", 0, 9, 17, 25);
        sawnOf("k5;k5;k13;g20,3;", 0, 6, 9, 14, 17);
        LeftAndRight x = new LeftAndRight();
        due("sawn(-2)", x.sawn(-2), BAD);
        due("sawn(1000)", x.sawn(1000), NONE);
    }

    // Promise 21
    private static void sizes() {
        LeftAndRight x = Check.laid("c0,0,30,5;c0,1,30,5;c0,0,32,5;c0,0,33,5;c0,1,34,5;c2,0,36,5;c2,0,36,5;c2,0,36,5;c1,0,72,5;");
        int[] from = {30, 29, 30, 30, 30};
        int[] many = {2, 2, 3, 4, 5};
        for (int k = 1; k <= 5; k++) {
            due("sizes(" + k + ", 0)", x.sizes(k, 0), from[k - 1]);
            due("sizes(" + k + ", 1)", x.sizes(k, 1), many[k - 1]);
        }
        due("sizes(0, 0)", x.sizes(0, 0), BAD);
        due("sizes(6, 0)", x.sizes(6, 0), BAD);
        due("sizes(1, 2)", x.sizes(1, 2), BAD);
        due("sizes(1, -1)", x.sizes(1, -1), BAD);
        x = Check.laid("c2,0,30,5;");
        due("sizes(3, 0), all holed", x.sizes(3, 0), 1);
        due("sizes(3, 1), all holed", x.sizes(3, 1), 0);
        x = Check.laid("c1,0,72,5;");
        due("sizes(1, 0) of 72", x.sizes(1, 0), 72);
        due("sizes(5, 0) of 72", x.sizes(5, 0), 68);
        x.pass(30);
        due("sizes(1, 0) of 72, dried", x.sizes(1, 0), 66);
    }

    // Promises 22, 23, 24
    private static void heardForgetThick() {
        LeftAndRight x = Check.laid("c0,0,30,5;");
        int[][] bad = {{-1, 1, 0}, {10, 1, 0}, {0, 0, 0}, {0, 10, 0}, {0, 1, 2}, {0, 1, -1}};
        for (int[] b : bad) {
            due("heard, bad", x.heard(b[0], b[1], b[2]), BAD);
        }
        due("heard(9, 9, 1)", x.heard(9, 9, 1), 1);
        due("thick(9)", x.thick(9), 1022);
        due("heard(9, 1, 0)", x.heard(9, 1, 0), 2);
        due("thick(9)", x.thick(9), 1020);
        due("heard(0, 1, 1)", x.heard(0, 1, 1), 3);
        due("thick(0)", x.thick(0), 2);
        due("heard(0, 1, 0)", x.heard(0, 1, 0), 4);
        due("thick(0), none can be", x.thick(0), 0);
        due("heard(5, 6, 1)", x.heard(5, 6, 1), 5);
        due("heard(5, 4, 0)", x.heard(5, 4, 0), 6);
        due("thick(5)", x.thick(5), 32 + 64);
        due("thick(1), nothing heard", x.thick(1), 1022);
        due("thick(10)", x.thick(10), BAD);
        due("thick(-1)", x.thick(-1), BAD);
        x.come(0, 1, 30, 5);
        x.go(0, 1);
        due("thick(0) when it went", x.thick(0), 0);
        x.undo();
        x.keep();
        x.back();
        due("heard(1, 1, 1)", x.heard(1, 1, 1), 7);
        due("heard(1, 1, 1)", x.heard(1, 1, 1), 8);
        due("heard, a ninth", x.heard(1, 1, 1), FULL);
        for (int[] b : bad) {
            due("heard, bad when full", x.heard(b[0], b[1], b[2]), BAD);
        }
        due("count(5)", x.count(5), 8);
        due("forget()", x.forget(), 8);
        due("forget() of none", x.forget(), 0);
        due("thick(5)", x.thick(5), 1022);
        due("heard again", x.heard(1, 1, 1), 1);
        due("thick(1) by the first that is heard", x.thick(1), 2);
    }

    private static void wholeOf(int n, int x, int above, int below) {
        LeftAndRight shelf = new LeftAndRight();
        due("whole(" + n + ", " + x + ", 0)", shelf.whole(n, x, 0), above);
        due("whole(" + n + ", " + x + ", 1)", shelf.whole(n, x, 1), below);
    }

    // Promise 25
    private static void whole() {
        wholeOf(0, 0, 1, 1);
        wholeOf(0, 10, 1, 1);
        wholeOf(4, 0, 1, 1);
        wholeOf(1, 10, 0, 1);
        wholeOf(1, 1, 81, 100);
        wholeOf(4, 1, 43046721, 100000000);
        wholeOf(2, 2, 256, 625);
        wholeOf(3, 5, 1, 64);
        wholeOf(4, 9, 1, 100000000);
        wholeOf(2, 6, 16, 625);
        LeftAndRight x = new LeftAndRight();
        due("whole(5, 1, 0)", x.whole(5, 1, 0), BAD);
        due("whole(-1, 1, 0)", x.whole(-1, 1, 0), BAD);
        due("whole(1, 11, 0)", x.whole(1, 11, 0), BAD);
        due("whole(1, -1, 0)", x.whole(1, -1, 0), BAD);
        due("whole(1, 1, 2)", x.whole(1, 1, 2), BAD);
        due("whole(1, 1, -1)", x.whole(1, 1, -1), BAD);
    }

    // Promise 26
    private static void together() {
        LeftAndRight x = new LeftAndRight();
        due("together(0, 10)", x.together(0, 10), 100000);
        due("together(1, 33)", x.together(1, 33), 100000);
        due("together(3, 0)", x.together(3, 0), 100000);
        // 1 + .9 + .81 + .648 less 1 + .9 + .72 + .648
        due("together(2, 10)", x.together(2, 10), 100900);
        // .64 + .384 + .2304 less .48 + .192 + .1536, behind 1 + .8 and before .09216 in both
        due("together(3, 20)", x.together(3, 20), 104288);
        // .67 times .67 less .67 times .34: 0.2211
        due("together(2, 33)", x.together(2, 33), 102211);
        // .99 times .01 is 0.0099
        due("together(2, 1)", x.together(2, 1), 100099);
        due("together(4, 1)", x.together(4, 1), BAD);
        due("together(-1, 1)", x.together(-1, 1), BAD);
        due("together(1, 34)", x.together(1, 34), BAD);
        due("together(1, -1)", x.together(1, -1), BAD);
    }

    /** Reckoned apart from the program, from one right clog of 30 and 10 on. */
    private static void yearOf(int z, int n, int pairs, int clogs) {
        LeftAndRight x = Check.laid("c0,1,30,10;");
        due("year(" + z + ", " + n + ", 0)", x.year(z, n, 0), pairs);
        due("year(" + z + ", " + n + ", 1)", x.year(z, n, 1), clogs);
        due("year(" + z + ", " + n + ", 0) once more", x.year(z, n, 0), pairs);
    }

    // Promise 27
    private static void year() {
        LeftAndRight x = Check.laid("c0,1,30,10;");
        // x = 1: DRAW 0, a left one of 30 and 10, alike to the one that stands there.
        due("year(0, 1, 0)", x.year(0, 1, 0), 1);
        due("year(0, 1, 1)", x.year(0, 1, 1), 0);
        due("nothing is changed", x.count(0), 1);
        due("nothing can be undone", x.count(6), 0);
        due("the day", x.count(2), 0);
        // x = 6152: 37847104 modulo 65521 is 41487, DRAW 10371: a right one of 31 and 14.
        due("year(0, 2, 0)", x.year(0, 2, 0), 1);
        due("year(0, 2, 1)", x.year(0, 2, 1), 1);
        x = Check.laid("c1,0,36,9;c0,1,34,9;c2,1,60,9;c2,1,60,9;c2,1,60,9;c2,1,60,9;c2,1,60,9;c2,1,60,9;c2,1,60,9;c2,1,60,9;");
        due("year(0, 10, 0), too fresh yet", x.year(0, 10, 0), 0);
        due("year(0, 11, 0), dried on its day 10", x.year(0, 11, 0), 1);
        due("year(0, 11, 1), none comes to ten", x.year(0, 11, 1), 8);
        x.pass(10);
        due("year(0, 1, 0), from now", x.year(0, 1, 0), 1);
        yearOf(1, 60, 16, 10);
        yearOf(2, 8, 2, 5);
        yearOf(5, 45, 11, 10);
        yearOf(77, 30, 4, 10);
        yearOf(123, 20, 2, 10);
        yearOf(4321, 60, 12, 10);
        yearOf(9999, 60, 7, 10);
        due("year(-1, 1, 0)", x.year(-1, 1, 0), BAD);
        due("year(10000, 1, 0)", x.year(10000, 1, 0), BAD);
        due("year(0, 0, 0)", x.year(0, 0, 0), BAD);
        due("year(0, 61, 0)", x.year(0, 61, 0), BAD);
        due("year(0, 1, 2)", x.year(0, 1, 2), BAD);
        due("year(0, 1, -1)", x.year(0, 1, -1), BAD);
    }

    // Promises 28, 29
    private static void keepAndBack() {
        LeftAndRight x = Check.laid("c0,0,30,5;c0,1,30,5;f28,28;");
        due("back() of none", x.back(), NO);
        due("keep()", x.keep(), 1);
        x.pass(9);
        x.hole(0);
        due("keep()", x.keep(), 2);
        due("keep(), a third", x.keep(), FULL);
        due("keep() undoes nothing", x.count(6), 2);
        x.heard(0, 1, 1);
        x.come(1, 1, 40, 7);
        x.pass(60);
        due("back()", x.back(), 1);
        counts("back", x, 2, 1, 9, 0, 1, 1, 0, 1, 27, 2);
        due("undo() behind back()", x.undo(), NO);
        x.undo();
        due("keep() once more", x.keep(), 2);
        x.pass(1);
        due("back()", x.back(), 1);
        due("the day", x.count(2), 9);
        due("back()", x.back(), 0);
        counts("back", x, 2, 1, 0, 0, 0, 1, 0, 0, 27, 2);
        row("back", x, 0, 0, 0, 30, 5, 0);
        due("back() of no more", x.back(), NO);
        x.keep();
        x.pass(5);
        x.undo();
        x.pass(6);
        due("back() behind undo()", x.back(), 0);
        due("the day", x.count(2), 0);
        x.pass(1);
        due("back() of none", x.back(), NO);
        due("which undoes nothing", x.undo(), 0);
    }

    // Promise 30
    private static void count() {
        LeftAndRight x = Check.laid("c0,0,30,5;c2,1,30,5;f28,28;f29,29;f30,30;g9,3;k1;k8;k9;k1;s4;");
        x.pass(3);
        x.pass(4);
        x.heard(2, 2, 0);
        x.keep();
        counts("count", x, 2, 3, 7, 2, 1, 1, 2, 1, 61, 4);
        due("count(-1)", x.count(-1), BAD);
        due("count(10)", x.count(10), BAD);
        due("knots of 20 without a log told", Check.laid("c0,0,30,5;k19;k20;k39;").count(3), 1);
        due("knots of 40", Check.laid("c0,0,30,5;k0;k39;g40,2;").count(3), 2);
    }
}
