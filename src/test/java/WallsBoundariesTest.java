import java.util.function.Supplier;

/** The boundaries that the document names for walls, likelihoods, years, what is kept and all calls (promises 22 to 30), a sentence a test. */
public final class WallsBoundariesTest {
    private static final int BAD = -1, NO = -2, FULL = -3, NONE = -4, ALL = 1022;
    private static final String CLOG = "c0,0,30,5;", PAIR = "c0,0,30,5;c0,1,30,5;", HOLED = "c2,0,50,5;";
    private static final Boundary at = new Boundary();

    public static void main(String[] args) {
        eightHeardAtMost();
        clearIsThickOrThinner();
        howThickAWallCanBe();
        notChangedByWhatComesOrGoes();
        likelihoodsInLowestTerms();
        cutsInTheMean();
        overWhenOneIsThrough();
        cutTowardZero();
        daysOfAYear();
        fewerThanTen();
        drawOfADay();
        drawnOnes();
        comesDry();
        firstTwoThatAreAlike();
        thenTheDay();
        twoKeptAtMost();
        badNumbers();
        noNoneAndFull();
        ofSeveralTheFirst();
        nothingChangesThen();
        heard();
        forget();
        thick();
        whole();
        together();
        year();
        keep();
        back();
        count();
        callsOfAnObject();
        at.end("WallsBoundariesTest");
    }

    /** So many sounds, of walls 0, 1, .. in turn, each clear at 5. */
    private static LeftAndRight sounded(int sounds) {
        LeftAndRight x = Check.laid(PAIR);
        for (int i = 0; i < sounds; i++) {
            x.heard(i, 5, 1);
        }
        return x;
    }

    private static void eightHeardAtMost() {
        at.of("HEARD (8 at most)");
        LeftAndRight x = sounded(6);
        at.due("heard(), the seventh", x.heard(7, 5, 1), 7);
        at.due("heard(), the eighth", x.heard(7, 3, 0), 8);
        at.due("thick(7) by both", x.thick(7), 16 + 32);
        at.due("heard(), a ninth", x.heard(7, 4, 0), FULL);
        at.due("heard(), of another", x.heard(8, 4, 0), FULL);
        at.due("count(5)", x.count(5), 8);
        at.due("thick(7) then", x.thick(7), 16 + 32);
        at.due("thick(8) then", x.thick(8), ALL);
        at.refused(() -> sounded(8), "heard(), a ninth", full -> full.heard(0, 4, 1), FULL);
        at.refused(() -> sounded(8), "heard(), the same as one that is HEARD", full -> full.heard(0, 5, 1), FULL);
        at.due("forget()", x.forget(), 8);
        at.due("heard() then", x.heard(7, 4, 0), 1);
        for (int i = 2; i <= 8; i++) {
            at.due("heard(), the same " + i + " times", x.heard(7, 4, 0), i);
        }
        at.due("heard(), the same once more", x.heard(7, 4, 0), FULL);
    }

    private static void clearIsThickOrThinner() {
        at.of("is that a wall of a CLOG told by number sounded clear, or not (1, 0), at t (1 to 9): clear is one that is t thick or thinner.");
        for (int t = 1; t <= 9; t++) {
            LeftAndRight x = Check.laid(CLOG);
            x.heard(0, t, 1);
            x.heard(1, t, 0);
            for (int thickness = 1; thickness <= 9; thickness++) {
                at.due("clear at " + t + ": can be " + thickness, x.thick(0) >> thickness & 1, thickness <= t ? 1 : 0);
                at.due("not clear at " + t + ": can be " + thickness, x.thick(1) >> thickness & 1, thickness <= t ? 0 : 1);
            }
        }
    }

    private static void howThickAWallCanBe() {
        at.of("THICK of a CLOG: how thick (1 to 9, as bits 1 to 9) its wall can be, so that all that is HEARD of it is so.");
        for (int t = 1; t <= 9; t++) {
            for (int under = 1; under <= 9; under++) {
                LeftAndRight x = Check.laid(CLOG);
                int clear = (1 << t + 1) - 2;
                int not = ALL & ~((1 << under + 1) - 2);
                at.due("thick(0), nothing HEARD", x.thick(0), ALL);
                x.heard(0, t, 1);
                at.due("thick(0), clear at " + t, x.thick(0), clear);
                x.heard(0, under, 0);
                at.due("thick(0), clear at " + t + ", not at " + under, x.thick(0), clear & not);
                x.heard(9, under, 0);
                at.due("thick(9), not clear at " + under, x.thick(9), not);
                at.due("thick(8), nothing HEARD of it", x.thick(8), ALL);
                at.due("thick(1), nothing HEARD of it", x.thick(1), ALL);
            }
        }
        LeftAndRight x = Check.laid(CLOG);
        x.heard(0, 9, 1);
        at.due("thick(0), clear at 9", x.thick(0), ALL);
        x.heard(0, 1, 1);
        at.due("thick(0), clear at 1, too", x.thick(0), 2);
        x.heard(0, 1, 0);
        at.due("thick(0), not clear at 1, too", x.thick(0), 0);
        x.heard(3, 9, 0);
        at.due("thick(3), not clear at 9", x.thick(3), 0);
    }

    private static void notChangedByWhatComesOrGoes() {
        at.of("It is not changed by what comes or goes (it is of that number).");
        LeftAndRight x = Check.laid(PAIR + "c0,0,40,5;");
        x.heard(0, 3, 1);
        x.heard(2, 6, 0);
        x.heard(9, 1, 1);
        at.due("go(0, 1)", x.go(0, 1), 1);
        walls("one goes", x);
        x.come(0, 1, 60, 5);
        walls("one comes", x);
        x.hole(0);
        walls("one is HOLED", x);
        x.pass(60);
        walls("DAYS go by", x);
        x.keep();
        x.undo();
        x.undo();
        walls("some is UNDONE", x);
        x.back();
        walls("it is as KEPT", x);
        x.wipe();
        at.due("lay() of none", x.lay(), NO);
        walls("nothing is LAID", x);
        Check.write(x, CLOG).lay();
        for (int i = 0; i <= 9; i++) {
            at.due("thick(" + i + ") of what is LAID anew", x.thick(i), ALL);
        }
    }

    private static void walls(String when, LeftAndRight x) {
        int[] want = {14, ALL, ALL & ~126, ALL, ALL, ALL, ALL, ALL, ALL, 2};
        for (int i = 0; i <= 9; i++) {
            at.due("thick(" + i + ") when " + when, x.thick(i), want[i]);
        }
        at.due("HEARD when " + when, x.count(5), 3);
    }

    private static void wholeOf(int n, int x, int above, int below) {
        LeftAndRight shelf = new LeftAndRight();
        at.due("whole(" + n + ", " + x + ", 0)", shelf.whole(n, x, 0), above);
        at.due("whole(" + n + ", " + x + ", 1)", shelf.whole(n, x, 1), below);
    }

    private static void likelihoodsInLowestTerms() {
        at.of("WHOLE for n (0 to 4) cuts each and x (0 to 10) of ten that a cut goes through: how likely both of a pair come whole, in lowest terms.");
        int[] of10 = {1, 9, 4, 7, 3, 1, 2, 3, 1, 1, 0};
        int[] by = {1, 10, 5, 10, 5, 2, 5, 10, 5, 10, 1};
        for (int x = 0; x <= 10; x++) {
            int above = 1;
            int below = 1;
            for (int n = 0; n <= 4; n++) {
                wholeOf(n, x, above, below);
                above *= of10[x] * of10[x];
                below *= by[x] * by[x];
            }
        }
        wholeOf(0, 0, 1, 1);
        wholeOf(0, 10, 1, 1);
        wholeOf(1, 0, 1, 1);
        wholeOf(1, 1, 81, 100);
        wholeOf(1, 9, 1, 100);
        wholeOf(1, 10, 0, 1);
        wholeOf(4, 0, 1, 1);
        wholeOf(4, 1, 43046721, 100000000);
        wholeOf(4, 9, 1, 100000000);
        wholeOf(4, 10, 0, 1);
    }

    private static void togetherOf(int n, int x, int want) {
        at.due("together(" + n + ", " + x + ")", new LeftAndRight().together(n, x), want);
    }

    private static void cutsInTheMean() {
        at.of("TOGETHER for n (0 to 3) cuts each and x (0 to 33): the k-th cut of one (1 first) goes through by k times x of a hundred;");
        for (int x = 0; x <= 33; x++) {
            togetherOf(0, x, 100000);
            togetherOf(1, x, 100000);
            // The third cut alone is another: (1 - x) (1 - x) less (1 - x) (1 - 2 x), which is x (1 - x).
            togetherOf(2, x, 100000 + x * (100 - x));
        }
        togetherOf(3, 0, 100000);
        togetherOf(3, 1, 100389);
        togetherOf(3, 2, 100756);
        togetherOf(3, 10, 102988);
        togetherOf(3, 20, 104288);
        togetherOf(3, 32, 104275);
        togetherOf(3, 33, 104218);
    }

    private static void overWhenOneIsThrough() {
        at.of("all is over when one is through, or both have their n: how many cuts there are in the mean, were both carved cut by cut");
        // No cut at all; both ways two cuts; by 0 of a hundred none goes through, and both ways have all six.
        togetherOf(0, 33, 100000);
        togetherOf(1, 33, 100000);
        togetherOf(3, 0, 100000);
        // 1, .67, .67 by .67, that by .34 less 1, .67, .67 by .34, that by .67: the third cut alone differs.
        togetherOf(2, 33, 102211);
        // .99 by .99 less .99 by .98, that by .98 less .99 by .98 by .97, that by .98 less .99 by .98 by .97 by .99.
        togetherOf(3, 1, 100389);
        // The third cut goes through by .99, and by .96: hardly ever does one come whole.
        togetherOf(3, 33, 104218);
        togetherOf(3, 32, 104275);
    }

    private static void cutTowardZero() {
        at.of("ten thousand times the exact one, cut (toward 0), and 100000.");
        // 2988.0 and 4288.0 exactly; 4420.06.., 389.08..; 2023.18.., 4343.59.., 4139.88.., 3939.53..; 4046.46..
        togetherOf(3, 10, 102988);
        togetherOf(3, 20, 104288);
        togetherOf(3, 23, 104420);
        togetherOf(3, 21, 104343);
        togetherOf(3, 18, 104139);
        togetherOf(3, 16, 103939);
        togetherOf(3, 17, 104046);
        togetherOf(3, 6, 102023);
    }

    private static void yearOf(String text, int z, int n, int pairs, int clogs) {
        LeftAndRight x = Check.laid(text);
        at.due("year(" + z + ", " + n + ", 0) of " + text, x.year(z, n, 0), pairs);
        at.due("year(" + z + ", " + n + ", 1) of " + text, x.year(z, n, 1), clogs);
    }

    private static void daysOfAYear() {
        at.of("A YEAR by z (0 to 9999) of n (1 to 60) DAYS from now");
        String one = "c0,1,30,10;";
        // Reckoned apart from the program.
        yearOf(one, 3, 1, 0, 2);
        yearOf(one, 3, 2, 0, 3);
        yearOf(one, 3, 3, 1, 2);
        yearOf(one, 3, 58, 26, 7);
        yearOf(one, 3, 59, 27, 6);
        yearOf(one, 3, 60, 27, 7);
        yearOf(one, 13, 59, 27, 6);
        yearOf(one, 13, 60, 28, 5);
        // The first that comes: by 0 a LEFT one, 30 and 10; by 1 LEFT, 36 and 13; by 9998 LEFT, 34 and 11; by 9999 RIGHT, 34 and 10.
        yearOf("c0,1,30,10;", 0, 1, 1, 0);
        yearOf("c0,1,36,13;", 1, 1, 1, 0);
        yearOf("c0,1,34,11;", 9998, 1, 1, 0);
        yearOf("c0,0,34,10;", 9999, 1, 1, 0);
        yearOf("c0,1,34,10;", 9999, 1, 0, 2);
        LeftAndRight x = Check.passed(Check.laid(one), 999);
        at.due("year(3, 60, 0) from the last DAY on", x.year(3, 60, 0), 27);
        at.due("year(3, 60, 1) from the last DAY on", x.year(3, 60, 1), 7);
        at.due("the DAY then", x.count(2), 999);
    }

    private static void fewerThanTen() {
        at.of("if there are fewer than 10");
        yearOf(HOLED.repeat(8), 0, 1, 0, 9);
        yearOf(HOLED.repeat(8), 0, 2, 0, 10);
        yearOf(HOLED.repeat(8), 0, 3, 0, 10);
        yearOf(HOLED.repeat(9), 0, 1, 0, 10);
        yearOf(HOLED.repeat(9), 0, 2, 0, 10);
        yearOf(HOLED.repeat(9), 0, 60, 0, 10);
        yearOf(HOLED.repeat(10), 0, 1, 0, 10);
        yearOf(HOLED.repeat(10), 0, 60, 0, 10);
        // Ten with a pair: none comes on the first of the DAYS, one on the second.
        yearOf(HOLED.repeat(8) + "c0,0,60,9;c0,1,60,9;", 0, 1, 1, 8);
        yearOf(HOLED.repeat(8) + "c0,0,60,9;c0,1,60,9;", 0, 2, 1, 9);
        // Nine with a pair: one comes before the pair goes.
        yearOf(HOLED.repeat(7) + "c0,0,60,9;c0,1,60,9;", 0, 1, 1, 8);
        LeftAndRight x = Check.laid(PAIR);
        x.go(0, 1);
        at.due("year(0, 1, 0) of none", x.year(0, 1, 0), 0);
        at.due("year(0, 1, 1) of none", x.year(0, 1, 1), 1);
    }

    private static void drawOfADay() {
        at.of("6151 (the DAY of these, 0 first) and 1 together");
        // By z 0 a LEFT one of 30 and 10 on the first of the DAYS, a RIGHT one of 31 and 14 on the second, a LEFT one of 33 and 10 on the third.
        String nine = HOLED.repeat(7);
        yearOf(nine + "c0,1,30,10;", 0, 1, 1, 7);
        yearOf(nine + "c0,1,30,10;", 0, 2, 1, 8);
        yearOf(nine + "c0,0,31,14;", 0, 1, 0, 9);
        yearOf(nine + "c0,0,31,14;", 0, 2, 1, 8);
        // None comes on the first, and yet the second DAY's comes on the second.
        yearOf(nine + "c0,0,60,9;c0,1,60,9;c0,0,31,14;", 0, 1, 1, 8);
        yearOf(nine + "c0,0,60,9;c0,1,60,9;c0,0,31,14;", 0, 2, 2, 7);
        yearOf(HOLED.repeat(6) + "c0,1,33,10;", 0, 2, 0, 9);
        yearOf(HOLED.repeat(6) + "c0,1,33,10;", 0, 3, 1, 8);
        LeftAndRight x = Check.passed(Check.laid(nine + "c0,1,30,10;"), 5);
        at.due("year(0, 1, 0) from DAY 5 on: the DAY of these is 0", x.year(0, 1, 0), 1);
    }

    /** The one that comes first by z: ALIKE with one of the other SIDE, 1 and 3 apart at most, with none of its own. */
    private static void drawn(int z, int side, int size, int weight) {
        for (int apart = -4; apart <= 4; apart++) {
            String bySize = "c0," + (1 - side) + "," + (size + apart) + "," + weight + ";";
            String byWeight = "c0," + (1 - side) + "," + size + "," + (weight + apart) + ";";
            at.due("year(" + z + ", 1, 0) of " + bySize, Check.laid(bySize).year(z, 1, 0), Math.abs(apart) <= 1 ? 1 : 0);
            at.due("year(" + z + ", 1, 0) of " + byWeight, Check.laid(byWeight).year(z, 1, 0), Math.abs(apart) <= 3 ? 1 : 0);
        }
        yearOf("c0," + side + "," + size + "," + weight + ";", z, 1, 0, 2);
    }

    private static void drawnOnes() {
        at.of("of SIDE DRAW modulo 2, size 30 and (DRAW by 2, cut) modulo 12, weight 10 and (DRAW by 32, cut) modulo 5");
        // Reckoned apart from the program: the first and the last z, the largest DRAW (by 3653), each SIDE with the ends of size and weight.
        drawn(0, 0, 30, 10);
        drawn(1, 0, 36, 13);
        drawn(9998, 0, 34, 11);
        drawn(9999, 1, 34, 10);
        drawn(3653, 1, 35, 11);
        drawn(47, 0, 30, 10);
        drawn(54, 0, 30, 14);
        drawn(55, 0, 41, 10);
        drawn(286, 0, 41, 14);
        drawn(135, 1, 30, 10);
        drawn(142, 1, 30, 14);
        drawn(52, 1, 41, 10);
        drawn(187, 1, 41, 14);
    }

    private static void comesDry() {
        at.of("on each one comes, DRY, of SIDE DRAW modulo 2");
        // A GREEN one of 33 and 10 is 31 from DAY 22 on; the LEFT one of 30 that came on DAY 0 is still 30 then.
        String text = "c1,1,33,10;" + HOLED.repeat(8);
        yearOf(text, 0, 1, 0, 10);
        yearOf(text, 0, 21, 0, 10);
        yearOf(text, 0, 22, 0, 10);
        yearOf(text, 0, 23, 1, 8);
        yearOf(text, 0, 24, 1, 9);
    }

    private static void firstTwoThatAreAlike() {
        at.of("then the first two that are ALIKE (the lowest LEFT one, the lowest RIGHT one) go, if there are any");
        String six = HOLED.repeat(6);
        // 60 with the lowest of 60 and 59; 61, ALIKE with 60 alone, is left.
        yearOf("c0,0,60,9;c0,0,61,9;c0,1,60,9;c0,1,59,9;" + six, 0, 1, 1, 8);
        yearOf("c0,0,60,9;c0,0,61,9;c0,1,60,9;c0,1,59,9;" + six, 0, 2, 1, 9);
        // The lowest RIGHT one is 59 now: both pairs go.
        yearOf("c0,0,60,9;c0,0,61,9;c0,1,59,9;c0,1,60,9;" + six, 0, 2, 2, 7);
        // The lowest LEFT one is 59, with 60; then 61 with 62.
        yearOf("c0,0,59,9;c0,1,60,9;c0,0,61,9;c0,1,62,9;" + six, 0, 2, 2, 7);
        // The lowest LEFT one is 61, with 60; 59 is left.
        yearOf("c0,0,61,9;c0,1,60,9;c0,0,59,9;c0,1,62,9;" + six, 0, 2, 1, 9);
        // One pair on each of the DAYS, no more.
        yearOf("c0,0,60,9;c0,1,60,9;c0,0,60,9;c0,1,60,9;" + six, 0, 1, 1, 8);
        yearOf("c0,0,60,9;c0,1,62,9;" + HOLED.repeat(8), 0, 1, 0, 10);
        yearOf("c0,0,60,9;c2,1,60,9;" + HOLED.repeat(8), 0, 1, 0, 10);
    }

    private static void thenTheDay() {
        at.of("go, if there are any, then the DAY: how many PAIRS went; how many CLOGS stand there then.");
        // 36 large is 35 from DAY 10 on, which is ALIKE with 34.
        String text = "c1,0,36,9;c0,1,34,9;" + HOLED.repeat(8);
        yearOf(text, 0, 9, 0, 10);
        yearOf(text, 0, 10, 0, 10);
        yearOf(text, 0, 11, 1, 8);
        yearOf(text, 0, 12, 1, 9);
        LeftAndRight x = Check.passed(Check.laid(text), 9);
        at.due("year(0, 1, 0) from DAY 9 on", x.year(0, 1, 0), 0);
        at.due("year(0, 2, 0) from DAY 9 on", x.year(0, 2, 0), 1);
        at.due("year(0, 1, 0) from DAY 10 on", Check.passed(x, 1).year(0, 1, 0), 1);
    }

    private static LeftAndRight keptTimes(int times) {
        LeftAndRight x = Check.laid(PAIR);
        for (int i = 0; i < times; i++) {
            x.pass(i + 1);
            x.keep();
        }
        x.hole(1);
        return x;
    }

    private static void twoKeptAtMost() {
        at.of("KEPT are DAYS, CLOGS: 2 at most.");
        at.due("keep(), the first", keptTimes(0).keep(), 1);
        at.due("keep(), the second", keptTimes(1).keep(), 2);
        at.refused(() -> keptTimes(2), "keep(), a third", LeftAndRight::keep, FULL);
        LeftAndRight x = keptTimes(2);
        at.due("keep(), a third", x.keep(), FULL);
        at.due("back()", x.back(), 1);
        at.due("the DAY", x.count(2), 3);
        at.due("keep(), the second again", x.keep(), 2);
        at.due("keep(), a third again", x.keep(), FULL);
        x.back();
        at.due("back() to the first", x.back(), 0);
        at.due("the DAY", x.count(2), 1);
        at.refused(() -> backTimes(keptTimes(2), 2), "back() of none", LeftAndRight::back, NO);
        // Neither what is HEARD nor THE TEXT nor what is laid but CLOGS is KEPT.
        x = Check.laid(PAIR + "f28,28;k3;s1;");
        x.keep();
        x.heard(0, 3, 1);
        x.write('c');
        x.back();
        int[] want = {2, 1, 0, 1, 0, 1, 0, 0, PAIR.length() + 14, 1};
        for (int what = 0; what < want.length; what++) {
            at.due("count(" + what + ")", x.count(what), want[what]);
        }
    }

    private static LeftAndRight backTimes(LeftAndRight x, int times) {
        for (int i = 0; i < times; i++) {
            x.back();
        }
        return x;
    }

    private static void badNumbers() {
        at.of("BAD: a number is none that is told (CLOGS, FEET: such as there are).");
        LeftAndRight x = Check.laid(PAIR + "f28,28;");
        int[] clogs = {BAD, 0, 0, BAD};
        for (int i = -1; i <= 2; i++) {
            at.due("clog(" + i + ", 0) of two", x.clog(i, 0), clogs[i + 1]);
        }
        at.due("come()", x.come(3, 0, 40, 5), 2);
        at.due("clog(2, 0) of three", x.clog(2, 0), 3);
        at.due("clog(3, 0) of three", x.clog(3, 0), BAD);
        at.due("go(0, 1)", x.go(0, 1), 1);
        at.due("clog(0, 0) of one", x.clog(0, 0), 3);
        at.due("clog(1, 0) of one", x.clog(1, 0), BAD);
        at.due("clog(2, 0) of one", x.clog(2, 0), BAD);
        x.undo();
        at.due("clog(2, 0) of three again", x.clog(2, 0), 3);
        x.undo();
        at.due("clog(2, 0) of two again", x.clog(2, 0), BAD);
        at.due("feet(0, 0) of one", x.feet(0, 0), 28);
        at.due("feet(1, 0) of one", x.feet(1, 0), BAD);
        at.due("whose(0) of one", x.whose(0), 1);
        at.due("served() of one", x.served(), 1);
        Check.write(x, PAIR).lay();
        at.due("feet(0, 0) of none", x.feet(0, 0), BAD);
        at.due("whose(0) of none", x.whose(0), 0);
        at.due("served() of none", x.served(), 0);
    }

    private static void noNoneAndFull() {
        at.of("NO: not as things stand. NONE: there is none. FULL.");
        LeftAndRight x = Check.laid(PAIR + "c0,0,60,5;");
        at.due("undo() with none", x.undo(), NO);
        at.due("pairs(2) with none", x.pairs(2), NONE);
        x.come(0, 1, 60, 5);
        at.due("pairs(2) with one", x.pairs(2), 3);
        at.due("undo() with one", x.undo(), 0);
        at.due("undo() with none again", x.undo(), NO);
        at.due("pairs(2) with none again", x.pairs(2), NONE);
        at.due("back() with none", x.back(), NO);
        at.due("keep()", x.keep(), 1);
        at.due("keep() once more", x.keep(), 2);
        at.due("keep() when FULL", x.keep(), FULL);
        at.due("back()", x.back(), 1);
        at.due("keep() with room again", x.keep(), 2);
        at.due("hole(2)", x.hole(2), 0);
        at.due("hole(2) as things stand then", x.hole(2), NO);
        at.due("alikeBy(2, 1) then", x.alikeBy(2, 1), NONE);
        at.due("go(2, 1) then", x.go(2, 1), NO);
    }

    private static void ofSeveralTheFirst() {
        at.of("Of several the first in this order; nothing changes then.");
        Supplier<LeftAndRight> letters = () -> Check.write(new LeftAndRight(), "z".repeat(200));
        at.refused(letters, "write(31): BAD before FULL", x -> x.write(31), BAD);
        at.refused(letters, "write(32): FULL", x -> x.write(32), FULL);
        Supplier<LeftAndRight> last = () -> Check.passed(Check.laid(PAIR), 999);
        at.refused(last, "pass(0): BAD before NO", x -> x.pass(0), BAD);
        at.refused(last, "pass(61): BAD before NO", x -> x.pass(61), BAD);
        at.refused(last, "pass(1): NO", x -> x.pass(1), NO);
        Supplier<LeftAndRight> ten = () -> Check.laid(PAIR + HOLED.repeat(8));
        at.refused(ten, "come(4, ..): BAD before FULL", x -> x.come(4, 0, 30, 5), BAD);
        at.refused(ten, "come(3, ..): FULL", x -> x.come(3, 0, 30, 5), FULL);
        at.refused(ten, "go(1, 10): BAD before NO", x -> x.go(1, 10), BAD);
        at.refused(ten, "go(10, 0): BAD before NO", x -> x.go(10, 0), BAD);
        at.refused(ten, "go(1, 9): NO", x -> x.go(1, 9), NO);
        at.refused(ten, "hole(10): BAD", x -> x.hole(10), BAD);
        at.refused(ten, "hole(9): NO", x -> x.hole(9), NO);
        at.refused(ten, "pairs(10): BAD", x -> x.pairs(10), BAD);
        at.refused(ten, "pairs(9): NONE", x -> x.pairs(9), NONE);
        at.refused(ten, "alikeBy(9, 0): BAD before NONE", x -> x.alikeBy(9, 0), BAD);
        at.refused(ten, "alikeBy(9, 1): NONE", x -> x.alikeBy(9, 1), NONE);
        at.refused(() -> sounded(8), "heard(0, 10, 1): BAD before FULL", x -> x.heard(0, 10, 1), BAD);
        at.refused(() -> sounded(8), "heard(0, 9, 1): FULL", x -> x.heard(0, 9, 1), FULL);
    }

    /** All that an object can hold: acts and kept ones to the full, sounds, a text that is not laid. */
    private static LeftAndRight rich() {
        LeftAndRight x = Check.laid(PAIR + "c1,0,72,40;c1,1,40,7;f28,28;f60,61;k7;s1;");
        for (int i = 1; i <= 5; i++) {
            x.pass(i);
        }
        x.keep();
        x.hole(3);
        x.come(3, 1, 66, 26);
        x.keep();
        x.pass(3);
        x.go(0, 1);
        x.come(1, 0, 36, 9);
        for (int i = 0; i < 8; i++) {
            x.heard(i, 5, i % 2);
        }
        return Check.write(x, "c0,0,44,4;f9,");
    }

    private static void nothingChangesThen() {
        at.of("nothing changes then.");
        at.refused(WallsBoundariesTest::rich, "lay()", LeftAndRight::lay, NO);
        at.refused(WallsBoundariesTest::rich, "keep()", LeftAndRight::keep, FULL);
        at.refused(WallsBoundariesTest::rich, "write(127)", x -> x.write(127), BAD);
        at.refused(WallsBoundariesTest::rich, "pass(61)", x -> x.pass(61), BAD);
        at.refused(WallsBoundariesTest::rich, "come(0, 0, 73, 5)", x -> x.come(0, 0, 73, 5), BAD);
        at.refused(WallsBoundariesTest::rich, "go(0, 1)", x -> x.go(0, 1), NO);
        at.refused(WallsBoundariesTest::rich, "hole(1)", x -> x.hole(1), NO);
        at.refused(WallsBoundariesTest::rich, "heard(0, 5, 0)", x -> x.heard(0, 5, 0), FULL);
        at.refused(WallsBoundariesTest::rich, "year(0, 61, 0)", x -> x.year(0, 61, 0), BAD);
        // A call that only asks changes nothing either, whatever it answers.
        at.refused(WallsBoundariesTest::rich, "year(0, 60, 1)", x -> x.year(0, 60, 1), 10);
        at.refused(WallsBoundariesTest::rich, "fault()", LeftAndRight::fault, 10);
        at.refused(WallsBoundariesTest::rich, "served()", LeftAndRight::served, 0);
        at.refused(WallsBoundariesTest::rich, "pairs(-2)", x -> x.pairs(-2), 0);
        at.refused(WallsBoundariesTest::rich, "dry(0, 1)", x -> x.dry(0, 1), 66);
    }

    private static void heard() {
        at.of("HEARD: how many. BAD (i: 0 to 9); FULL.");
        Supplier<LeftAndRight> led = () -> sounded(7);
        Supplier<LeftAndRight> full = () -> sounded(8);
        at.ends(led, "heard(i, 5, 1)", (x, i) -> x.heard(i, 5, 1), 0, 9);
        at.ends(led, "heard(0, t, 1)", (x, t) -> x.heard(0, t, 1), 1, 9);
        at.ends(led, "heard(9, 9, clear)", (x, clear) -> x.heard(9, 9, clear), 0, 1);
        at.beyond(full, "heard(i, 5, 1) when FULL", (x, i) -> x.heard(i, 5, 1), -1, 10);
        at.beyond(full, "heard(0, t, 1) when FULL", (x, t) -> x.heard(0, t, 1), 0, 10);
        at.beyond(full, "heard(0, 5, clear) when FULL", (x, clear) -> x.heard(0, 5, clear), -1, 2);
        int[][] corners = {{0, 1, 0}, {0, 9, 1}, {9, 1, 1}, {9, 9, 0}};
        for (int[] c : corners) {
            at.due("heard(" + c[0] + ", " + c[1] + ", " + c[2] + ")", led.get().heard(c[0], c[1], c[2]), 8);
            at.refused(full, "heard(" + c[0] + ", " + c[1] + ", " + c[2] + ") when FULL", x -> x.heard(c[0], c[1], c[2]), FULL);
        }
        LeftAndRight x = Check.laid(CLOG);
        for (int i = 1; i <= 8; i++) {
            at.due("heard(), number " + i, x.heard(9, 9, 1), i);
        }
    }

    private static void forget() {
        at.of("Nothing is HEARD: how many were.");
        for (int sounds : new int[] {0, 1, 7, 8}) {
            LeftAndRight x = sounded(sounds);
            at.due("forget() of " + sounds, x.forget(), sounds);
            at.due("count(5) then", x.count(5), 0);
            for (int i = 0; i <= 9; i++) {
                at.due("thick(" + i + ") then", x.thick(i), ALL);
            }
            at.due("forget() once more", x.forget(), 0);
            at.due("heard() then", x.heard(0, 1, 1), 1);
            at.due("thick(0) then", x.thick(0), 2);
        }
        LeftAndRight x = rich();
        x.forget();
        at.due("what can be UNDONE stays", x.count(6), 8);
        at.due("what is KEPT stays", x.count(7), 2);
        at.due("CLOGS stay", x.count(0), 4);
    }

    private static void thick() {
        at.of("THICK, as bits. BAD (i: 0 to 9).");
        at.ends(() -> sounded(8), "thick(i)", LeftAndRight::thick, 0, 9);
        at.ends(() -> Check.laid(CLOG), "thick(i) of one CLOG", LeftAndRight::thick, 0, 9);
        LeftAndRight x = sounded(8);
        int[] want = {BAD, 62, 62, 62, 62, 62, 62, 62, 62, ALL, ALL, BAD};
        for (int i = -1; i <= 10; i++) {
            at.due("thick(" + i + ")", x.thick(i), want[i + 1]);
        }
    }

    private static void whole() {
        at.of("WHOLE: above (part = 0), below (1). BAD.");
        at.ends(WallsBoundariesTest::rich, "whole(n, 5, 0)", (x, n) -> x.whole(n, 5, 0), 0, 4);
        at.ends(WallsBoundariesTest::rich, "whole(n, 10, 1)", (x, n) -> x.whole(n, 10, 1), 0, 4);
        at.ends(WallsBoundariesTest::rich, "whole(0, by, 0)", (x, by) -> x.whole(0, by, 0), 0, 10);
        at.ends(WallsBoundariesTest::rich, "whole(4, by, 1)", (x, by) -> x.whole(4, by, 1), 0, 10);
        at.ends(WallsBoundariesTest::rich, "whole(0, 0, part)", (x, part) -> x.whole(0, 0, part), 0, 1);
        at.ends(WallsBoundariesTest::rich, "whole(4, 10, part)", (x, part) -> x.whole(4, 10, part), 0, 1);
    }

    private static void together() {
        at.of("`int together(int n, int x)`: TOGETHER. BAD.");
        at.ends(WallsBoundariesTest::rich, "together(n, 0)", (x, n) -> x.together(n, 0), 0, 3);
        at.ends(WallsBoundariesTest::rich, "together(n, 33)", (x, n) -> x.together(n, 33), 0, 3);
        at.ends(WallsBoundariesTest::rich, "together(0, by)", (x, by) -> x.together(0, by), 0, 33);
        at.ends(WallsBoundariesTest::rich, "together(3, by)", (x, by) -> x.together(3, by), 0, 33);
    }

    private static void year() {
        at.of("A YEAR: PAIRS (what = 0), CLOGS (1). BAD.");
        at.ends(WallsBoundariesTest::rich, "year(z, 60, 0)", (x, z) -> x.year(z, 60, 0), 0, 9999);
        at.ends(WallsBoundariesTest::rich, "year(z, 1, 1)", (x, z) -> x.year(z, 1, 1), 0, 9999);
        at.ends(WallsBoundariesTest::rich, "year(0, n, 0)", (x, n) -> x.year(0, n, 0), 1, 60);
        at.ends(WallsBoundariesTest::rich, "year(9999, n, 1)", (x, n) -> x.year(9999, n, 1), 1, 60);
        at.ends(WallsBoundariesTest::rich, "year(0, 1, what)", (x, what) -> x.year(0, 1, what), 0, 1);
        at.ends(WallsBoundariesTest::rich, "year(9999, 60, what)", (x, what) -> x.year(9999, 60, what), 0, 1);
    }

    private static void keep() {
        at.of("KEPT: how many. FULL.");
        LeftAndRight x = Check.laid(CLOG);
        at.due("count(7)", x.count(7), 0);
        at.due("keep()", x.keep(), 1);
        at.due("count(7)", x.count(7), 1);
        at.due("keep(), the same", x.keep(), 2);
        at.due("keep(), a third", x.keep(), FULL);
        at.due("count(7)", x.count(7), 2);
        at.refused(WallsBoundariesTest::rich, "keep(), a third", LeftAndRight::keep, FULL);
        x = Check.laid(PAIR);
        x.go(0, 1);
        at.due("keep() of no CLOG", x.keep(), 1);
        x.come(0, 0, 30, 5);
        x.back();
        at.due("CLOGS then", x.count(0), 0);
    }

    private static void back() {
        at.of("As KEPT last (it is KEPT no more then): how many are left; nothing is UNDONE then. NO.");
        at.refused(() -> Check.laid(CLOG), "back() of none", LeftAndRight::back, NO);
        at.refused(() -> backTimes(keptTimes(1), 1), "back() of one once more", LeftAndRight::back, NO);
        LeftAndRight x = keptTimes(2);
        at.due("that can be UNDONE", x.count(6), 3);
        at.due("back() to the second", x.back(), 1);
        at.due("the DAY", x.count(2), 3);
        at.due("HOLED ones", x.count(4), 0);
        at.due("that can be UNDONE then", x.count(6), 0);
        at.due("undo() then", x.undo(), NO);
        x.pass(4);
        at.due("back() to the first", x.back(), 0);
        at.due("the DAY", x.count(2), 1);
        at.due("undo() then", x.undo(), NO);
        x.pass(2);
        at.due("back() of none", x.back(), NO);
        at.due("the DAY", x.count(2), 3);
        at.due("undo(), which back() of none left", x.undo(), 0);
        at.due("the DAY", x.count(2), 1);
    }

    private static void count() {
        at.of("How many: 0 CLOGS, 1 FEET, 2 the DAY, 3 KNOTS in the LOG, 4 HOLED, 5 HEARD, 6 that can be UNDONE, 7 KEPT, 8 letters of THE TEXT, 9 S. BAD.");
        at.ends(WallsBoundariesTest::rich, "count(what)", LeftAndRight::count, 0, 9);
        counts(rich(), 4, 2, 18, 1, 1, 8, 8, 2, 13, 1);
        counts(Check.laid(CLOG + "s0;"), 1, 0, 0, 0, 0, 0, 0, 0, 13, 0);
        counts(Check.passed(Check.laid("c2,0,12,1;".repeat(10) + "f10,10;f10,10;f10,10;f10,10;f10,10;g40,9;k0;k39;s6;"), 999),
            10, 5, 999, 2, 10, 0, 8, 0, 151, 6);
    }

    private static void counts(LeftAndRight x, int... want) {
        for (int what = 0; what < want.length; what++) {
            at.due("count(" + what + ")", x.count(what), want[what]);
        }
        at.due("count(-1)", x.count(-1), BAD);
        at.due("count(10)", x.count(10), BAD);
    }

    private static void callsOfAnObject() {
        at.of("An object is used for at most 512 calls after it has been made; what later calls answer is free.");
        LeftAndRight x = new LeftAndRight();
        for (int call = 1; call <= 510; call++) {
            at.due("pass() or undo(), call " + call, call % 2 == 1 ? x.pass(60) : x.undo(), call % 2 == 1 ? 60 : 0);
        }
        at.due("pass(7), call 511", x.pass(7), 7);
        at.due("clog(1, 2), call 512", x.clog(1, 2), 48);
        // What is free to answer must still answer: no call ever throws.
        for (int call = 513; call <= 2000; call++) {
            x.write('c');
            x.pass(60);
            x.come(1, call % 2, 30, 5);
            x.heard(call % 10, 5, 1);
            x.keep();
            x.served();
            x.pairs(-1);
            x.lay();
        }
    }
}
