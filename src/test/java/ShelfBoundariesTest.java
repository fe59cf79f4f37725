import java.util.function.Supplier;

/** The boundaries that the document names for days, clogs and acts (promises 6 and 8 to 12), a sentence a test. */
public final class ShelfBoundariesTest {
    private static final int BAD = -1, NO = -2, FULL = -3;
    private static final String CLOG = "c0,0,30,5;", PAIR = "c0,0,30,5;c0,1,30,5;";
    private static final Boundary at = new Boundary();

    public static void main(String[] args) {
        days();
        sizeOfGreenOnes();
        sizeSinceItCame();
        weightOfGreenOnes();
        weightSinceItCame();
        allOthers();
        alikeSides();
        alikeNoneHoled();
        alikeSizes();
        alikeWeights();
        alikeAsTheyDry();
        tenClogsAtMost();
        thoseBehindComeDown();
        allOfOneCallAtOnce();
        byWhichNothingBecomesAnother();
        theLastEight();
        clog();
        pass();
        come();
        go();
        hole();
        undo();
        at.end("ShelfBoundariesTest");
    }

    private static void days() {
        at.of("DAYS are 0 to 999.");
        at.due("the DAY at first", Check.laid(CLOG).count(2), 0);
        LeftAndRight x = Check.onDay(CLOG, 998);
        at.due("the DAY before the last", x.count(2), 998);
        at.due("pass(1) to the last", x.pass(1), 999);
        at.due("pass(1) beyond it", x.pass(1), NO);
        at.due("the DAY then", x.count(2), 999);
        at.due("come() on the last", x.come(1, 1, 72, 40), 1);
        at.due("on which DAY it came", x.clog(1, 4), 999);
        at.due("how large it is", x.clog(1, 2), 72);
        at.refused(() -> Check.onDay(CLOG, 999), "pass(1) on 999", last -> last.pass(1), NO);
        at.refused(() -> Check.onDay(CLOG, 999), "pass(60) on 999", last -> last.pass(60), NO);
        at.refused(() -> Check.onDay(CLOG, 998), "pass(2) on 998", last -> last.pass(2), NO);
        at.due("pass(60) on 939", Check.onDay(CLOG, 939).pass(60), 999);
        at.refused(() -> Check.onDay(CLOG, 940), "pass(60) on 940", last -> last.pass(60), NO);
        at.due("pass(59) on 940", Check.onDay(CLOG, 940).pass(59), 999);
        at.due("pass(59) on 939", Check.onDay(CLOG, 939).pass(59), 998);
        x = Check.onDay(CLOG, 999);
        x.undo();
        at.due("the DAY undone", x.count(2), 960);
        at.due("pass(39) then", x.pass(39), 999);
    }

    private static void large(String clog, int... daysAndSizes) {
        for (int i = 0; i + 1 < daysAndSizes.length; i += 2) {
            at.due("how large " + clog + " is on DAY " + daysAndSizes[i], Check.onDay(clog, daysAndSizes[i]).clog(0, 2), daysAndSizes[i + 1]);
        }
    }

    private static void heavy(String clog, int... daysAndWeights) {
        for (int i = 0; i + 1 < daysAndWeights.length; i += 2) {
            at.due("the WEIGHT of " + clog + " on DAY " + daysAndWeights[i], Check.onDay(clog, daysAndWeights[i]).clog(0, 3), daysAndWeights[i + 1]);
        }
    }

    private static void sizeOfGreenOnes() {
        at.of("SIZE of a GREEN one is Z less (Z times the DAYS since it came, 30 at most, by 360, cut)");
        large("c1,0,72,5;", 0, 72, 1, 72, 4, 72, 5, 71, 6, 71, 9, 71, 10, 70, 29, 67, 30, 66, 31, 66, 34, 66, 35, 66, 60, 66, 999, 66);
        // 12 times 29 is 348, 12 times 30 is 360.
        large("c1,0,12,5;", 0, 12, 29, 12, 30, 11, 31, 11, 60, 11, 999, 11);
        // 13 times 27 is 351, 13 times 28 is 364.
        large("c1,0,13,5;", 27, 13, 28, 12, 29, 12, 30, 12, 56, 12);
        // 24 times 30 is 720, 23 times 30 is 690.
        large("c1,1,24,5;", 14, 24, 15, 23, 29, 23, 30, 22, 31, 22);
        large("c1,1,23,5;", 15, 23, 16, 22, 30, 22, 32, 22);
        // 49 times 22 is 1078, 49 times 23 is 1127: two less, then three.
        large("c1,0,49,5;", 22, 47, 23, 46);
        for (int size = 12; size <= 72; size++) {
            LeftAndRight x = Check.laid("c1,0," + size + ",5;");
            int less = 0;
            for (int day = 1; day <= 32; day++) {
                x.pass(1);
                less += day <= 30 && size * day >= 360 * (less + 1) ? 1 : 0;
                at.due("how large " + size + " is on DAY " + day, x.clog(0, 2), size - less);
            }
        }
    }

    private static void sizeSinceItCame() {
        at.of("Z times the DAYS since it came");
        int[] days = {0, 4, 5, 29, 30, 31};
        int[] sizes = {72, 72, 71, 67, 66, 66};
        for (int i = 0; i < days.length; i++) {
            LeftAndRight x = Check.onDay(CLOG, 7);
            x.come(1, 0, 72, 5);
            Check.passed(x, days[i]);
            at.due("on which DAY it came", x.clog(1, 4), 7);
            at.due("how large one is that came " + days[i] + " DAYS ago", x.clog(1, 2), sizes[i]);
        }
        LeftAndRight x = Check.onDay(CLOG, 960);
        x.come(1, 0, 72, 5);
        Check.passed(x, 39);
        at.due("how large one is that came on 960, on 999", x.clog(1, 2), 66);
    }

    private static void weightOfGreenOnes() {
        at.of("its WEIGHT W less (W times these DAYS, 30 at most likewise, by 90, cut)");
        // 40 times 2 is 80, 40 times 3 is 120, 40 times 29 is 1160, 40 times 30 is 1200.
        heavy("c1,0,30,40;", 0, 40, 2, 40, 3, 39, 4, 39, 5, 38, 29, 28, 30, 27, 31, 27, 32, 27, 33, 27, 60, 27, 999, 27);
        heavy("c1,0,30,3;", 0, 3, 29, 3, 30, 2, 31, 2, 60, 2, 90, 2);
        heavy("c1,0,30,9;", 9, 9, 10, 8, 11, 8, 19, 8, 20, 7, 29, 7, 30, 6, 31, 6, 40, 6);
        heavy("c1,0,30,2;", 29, 2, 30, 2, 45, 2, 999, 2);
        heavy("c1,0,30,1;", 29, 1, 30, 1, 90, 1, 999, 1);
        for (int weight = 1; weight <= 40; weight++) {
            LeftAndRight x = Check.laid("c1,0,30," + weight + ";");
            int less = 0;
            for (int day = 1; day <= 32; day++) {
                x.pass(1);
                less += day <= 30 && weight * day >= 90 * (less + 1) ? 1 : 0;
                at.due("the WEIGHT of " + weight + " on DAY " + day, x.clog(0, 3), weight - less);
            }
        }
    }

    private static void weightSinceItCame() {
        at.of("W times these DAYS, 30 at most likewise");
        int[] days = {0, 2, 3, 29, 30, 31};
        int[] weights = {40, 40, 39, 28, 27, 27};
        for (int i = 0; i < days.length; i++) {
            LeftAndRight x = Check.onDay(CLOG, 50);
            x.come(1, 1, 30, 40);
            Check.passed(x, days[i]);
            at.due("the WEIGHT of one that came " + days[i] + " DAYS ago", x.clog(1, 3), weights[i]);
        }
    }

    private static void allOthers() {
        at.of("all others are Z large, weigh W, a BUTT one W and 2.");
        int[] days = {0, 1, 29, 30, 31, 999};
        for (int day : days) {
            for (int kind : new int[] {0, 2, 3}) {
                int butt = kind == 3 ? 2 : 0;
                large("c" + kind + ",0,72,40;", day, 72);
                heavy("c" + kind + ",0,72,40;", day, 40 + butt);
                large("c" + kind + ",1,12,1;", day, 12);
                heavy("c" + kind + ",1,12,1;", day, 1 + butt);
            }
        }
        heavy("c3,0,30,39;", 0, 41);
        heavy("c3,0,30,2;", 0, 4);
    }

    /** Whether CLOGS 0 and 1 of a text, a LEFT one and a RIGHT one, are ALIKE, told by each call that tells of it. */
    private static void alike(String text, boolean so) {
        Supplier<LeftAndRight> led = () -> Check.laid(text);
        LeftAndRight x = led.get();
        at.due("mates(0) of " + text, x.mates(0), so ? 2 : 0);
        at.due("mates(1) of " + text, x.mates(1), so ? 1 : 0);
        at.due("pairs(-1) of " + text, x.pairs(-1), so ? 1 : 0);
        at.due("leftOver(0) of " + text, x.leftOver(0), so ? 0 : 1);
        if (so) {
            at.due("alikeBy(0, 1) of " + text, x.alikeBy(0, 1), 0);
            at.due("go(0, 1) of " + text, x.go(0, 1), 0);
        } else {
            at.isSo("alikeBy(0, 1) of " + text + " is not 0", x.alikeBy(0, 1) != 0);
            at.refused(led, "go(0, 1) of " + text, one -> one.go(0, 1), NO);
        }
    }

    private static void alikeSides() {
        at.of("ALIKE are a LEFT and a RIGHT one");
        alike("c0,0,30,5;c0,1,30,5;", true);
        Supplier<LeftAndRight> other = () -> Check.laid("c0,1,30,5;c0,0,30,5;");
        at.due("go() of a RIGHT one, told first", other.get().go(1, 0), 0);
        at.refused(other, "go() with the sides changed", x -> x.go(0, 1), NO);
        for (int side = 0; side <= 1; side++) {
            String text = "c0," + side + ",30,5;c0," + side + ",30,5;";
            LeftAndRight x = Check.laid(text);
            at.due("mates(0) of two of a SIDE", x.mates(0), 0);
            at.due("mates(1) of two of a SIDE", x.mates(1), 0);
            at.due("pairs(-1) of two of a SIDE", x.pairs(-1), 0);
            at.refused(() -> Check.laid(text), "go(0, 1) of two of a SIDE", one -> one.go(0, 1), NO);
            at.refused(() -> Check.laid(text), "go(0, 0), one alone", one -> one.go(0, 0), NO);
        }
    }

    private static void alikeNoneHoled() {
        at.of("none of them HOLED");
        for (int left = 0; left <= 3; left++) {
            for (int right = 0; right <= 3; right++) {
                alike("c" + left + ",0,30,5;c" + right + ",1,30,5;", left != 2 && right != 2);
            }
        }
        LeftAndRight x = Check.laid(PAIR);
        at.due("mates(0)", x.mates(0), 2);
        x.hole(1);
        at.due("mates(0), the other HOLED", x.mates(0), 0);
        at.due("mates(1), itself HOLED", x.mates(1), 0);
        x.undo();
        at.due("mates(0), undone", x.mates(0), 2);
    }

    private static void alikeSizes() {
        at.of("whose SIZES are 1 apart at most");
        for (int apart = -3; apart <= 3; apart++) {
            alike("c0,0,40,5;c0,1," + (40 + apart) + ",5;", Math.abs(apart) <= 1);
        }
        alike("c0,0,12,5;c0,1,13,5;", true);
        alike("c0,0,72,5;c0,1,71,5;", true);
        alike("c0,0,12,5;c0,1,72,5;", false);
    }

    private static void alikeWeights() {
        at.of("ALIKE are a LEFT and a RIGHT one, none of them HOLED, whose SIZES are 1 apart at most and WEIGHTS 3.");
        for (int apart = -5; apart <= 5; apart++) {
            alike("c0,0,40,20;c0,1,40," + (20 + apart) + ";", Math.abs(apart) <= 3);
            alike("c0,0,40,20;c0,1,41," + (20 + apart) + ";", Math.abs(apart) <= 3);
            alike("c0,0,40,20;c0,1,42," + (20 + apart) + ";", false);
            // A BUTT one weighs 2 more.
            alike("c0,0,40,20;c3,1,40," + (20 + apart) + ";", Math.abs(apart + 2) <= 3);
            alike("c3,0,40,20;c0,1,40," + (20 + apart) + ";", Math.abs(apart - 2) <= 3);
            alike("c3,0,40,20;c3,1,40," + (20 + apart) + ";", Math.abs(apart) <= 3);
        }
    }

    private static void alikeOnDay(String text, int day, boolean so) {
        LeftAndRight x = Check.onDay(text, day);
        at.due("mates(0) of " + text + " on " + day, x.mates(0), so ? 2 : 0);
        at.due("mates(1) of " + text + " on " + day, x.mates(1), so ? 1 : 0);
        at.due("go(0, 1) of " + text + " on " + day, x.go(0, 1), so ? 0 : NO);
    }

    private static void alikeAsTheyDry() {
        at.of("======== 3 On this DAY.");
        // 36 large: 35 from DAY 10 on, 34 from 20 on, 33 from 30 on.
        alikeOnDay("c1,0,36,9;c0,1,34,9;", 9, false);
        alikeOnDay("c1,0,36,9;c0,1,34,9;", 10, true);
        alikeOnDay("c1,0,36,9;c0,1,34,9;", 11, true);
        alikeOnDay("c1,0,36,9;c0,1,36,9;", 19, true);
        alikeOnDay("c1,0,36,9;c0,1,36,9;", 20, false);
        alikeOnDay("c1,0,36,9;c0,1,32,9;", 29, false);
        alikeOnDay("c1,0,36,9;c0,1,32,9;", 30, true);
        alikeOnDay("c1,0,36,9;c0,1,31,9;", 999, false);
        // 30 heavy: 29 from DAY 3 on, 28 from 6 on.
        alikeOnDay("c0,0,20,25;c1,1,20,30;", 5, false);
        alikeOnDay("c0,0,20,25;c1,1,20,30;", 6, true);
        alikeOnDay("c0,0,20,30;c1,1,20,30;", 11, true);
        alikeOnDay("c0,0,20,30;c1,1,20,30;", 12, false);
    }

    private static void tenClogsAtMost() {
        at.of("a CLOG comes (10 at most)");
        LeftAndRight x = Check.laid(PAIR + CLOG.repeat(6));
        at.due("come(), the ninth", x.come(2, 1, 40, 7), 8);
        at.due("come(), the tenth", x.come(3, 0, 41, 8), 9);
        at.due("how large it is", x.clog(9, 2), 41);
        at.due("come(), an eleventh", x.come(0, 0, 30, 5), FULL);
        at.due("CLOGS", x.count(0), 10);
        at.due("clog(10, 0)", x.clog(10, 0), BAD);
        at.refused(() -> Check.laid(PAIR + CLOG.repeat(8)), "come(), an eleventh", full -> full.come(0, 0, 30, 5), FULL);
        at.refused(() -> Check.laid("c2,1,72,40;".repeat(10)), "come(), an eleventh", full -> full.come(2, 1, 12, 1), FULL);
        at.due("go(0, 1)", x.go(0, 1), 8);
        at.due("come(), the ninth again", x.come(0, 1, 30, 5), 8);
        at.due("come(), the tenth again", x.come(0, 1, 30, 5), 9);
        at.due("come(), an eleventh again", x.come(0, 1, 30, 5), FULL);
        at.due("undo()", x.undo(), 4);
        at.due("come(), the tenth once more", x.come(0, 1, 30, 5), 9);
    }

    /** Ten, each of a size of its own but for a pair, which goes. */
    private static void goes(int left, int right) {
        StringBuilder text = new StringBuilder();
        for (int i = 0; i < 10; i++) {
            text.append(i == left ? "c0,0,30,9;" : i == right ? "c0,1,30,9;" : "c2," + i % 2 + "," + (40 + i) + "," + (1 + i) + ";");
        }
        LeftAndRight x = Check.laid(text.toString());
        at.due("go(" + left + ", " + right + ")", x.go(left, right), 8);
        int to = 0;
        for (int i = 0; i < 10; i++) {
            if (i != left && i != right) {
                at.due("KIND of " + i + " behind go(" + left + ", " + right + ")", x.clog(to, 0), 2);
                at.due("SIDE of " + i + " behind go(" + left + ", " + right + ")", x.clog(to, 1), i % 2);
                at.due("how large " + i + " is behind go(" + left + ", " + right + ")", x.clog(to, 2), 40 + i);
                at.due("WEIGHT of " + i + " behind go(" + left + ", " + right + ")", x.clog(to, 3), 1 + i);
                to++;
            }
        }
        at.due("clog(8, 2)", x.clog(8, 2), BAD);
        at.due("come() then", x.come(0, 1, 33, 3), 8);
        at.due("how large it is", x.clog(8, 2), 33);
        x.undo();
        x.undo();
        at.due("how large the LEFT one is, undone", x.clog(left, 2), 30);
        at.due("SIDE of the RIGHT one, undone", x.clog(right, 1), 1);
    }

    private static void thoseBehindComeDown() {
        at.of("a pair that is ALIKE goes (those behind come down)");
        for (int left = 0; left < 10; left++) {
            for (int right = 0; right < 10; right++) {
                if (left != right) {
                    goes(left, right);
                }
            }
        }
        LeftAndRight x = Check.laid(CLOG + "c1,1,30,5;c1,0,72,5;");
        x.pass(3);
        x.come(1, 0, 60, 40);
        at.due("go(0, 1)", x.go(0, 1), 2);
        at.due("on which DAY one before came", x.clog(0, 4), 0);
        at.due("on which DAY one behind came", x.clog(1, 4), 3);
        x = Check.laid(PAIR);
        at.due("go(), the last two", x.go(0, 1), 0);
        at.due("CLOGS then", x.count(0), 0);
        at.due("come() then", x.come(0, 1, 44, 3), 0);
    }

    private static void allOfOneCallAtOnce() {
        at.of("(all of one call at once;");
        LeftAndRight x = Check.laid(PAIR + "c1,0,72,40;");
        x.pass(1);
        x.pass(60);
        at.due("undo() of 60 DAYS", x.undo(), 1);
        at.due("the DAY", x.count(2), 1);
        at.due("undo() of one DAY", x.undo(), 0);
        at.due("the DAY", x.count(2), 0);
        at.due("go(0, 1)", x.go(0, 1), 1);
        at.due("undo() of two that went", x.undo(), 0);
        at.due("CLOGS", x.count(0), 3);
        at.due("SIDE of the first", x.clog(0, 1), 0);
        at.due("SIDE of the second", x.clog(1, 1), 1);
        at.due("how large the third is", x.clog(2, 2), 72);
        x.pass(30);
        x.hole(2);
        at.due("how large one is that is HOLED", x.clog(2, 2), 72);
        at.due("undo() of that", x.undo(), 1);
        at.due("its KIND", x.clog(2, 0), 1);
        at.due("how large it is", x.clog(2, 2), 66);
        x.come(0, 0, 30, 5);
        at.due("undo() of one that came", x.undo(), 1);
        at.due("CLOGS", x.count(0), 3);
    }

    private static void byWhichNothingBecomesAnother() {
        at.of("such by which nothing becomes another, too;");
        LeftAndRight x = Check.laid("c2,0,30,5;");
        x.pass(1);
        at.due("a DAY by which no CLOG becomes another", x.count(6), 1);
        x.come(2, 0, 30, 5);
        at.due("one comes that is as the one that is there", x.count(6), 2);
        x.come(0, 0, 30, 5);
        x.hole(2);
        at.due("one is HOLED that is as large and heavy then", x.count(6), 4);
        at.due("undo()", x.undo(), 3);
        at.due("undo()", x.undo(), 2);
        at.due("undo()", x.undo(), 1);
        at.due("CLOGS", x.count(0), 1);
        at.due("undo() of the DAY", x.undo(), 0);
        at.due("the DAY", x.count(2), 0);
        x = Check.laid(PAIR);
        x.go(0, 1);
        x.pass(5);
        at.due("a DAY goes by on an empty shelf", x.count(6), 2);
        at.due("undo() of it", x.undo(), 1);
        at.due("CLOGS", x.count(0), 0);
        at.due("undo() of the pair that went", x.undo(), 0);
        at.due("CLOGS", x.count(0), 2);
    }

    /** A DAY more with each act: 1, 1 and 2 together, .. */
    private static LeftAndRight acted(int acts) {
        LeftAndRight x = Check.laid(CLOG);
        for (int i = 1; i <= acts; i++) {
            x.pass(i);
        }
        return x;
    }

    private static void theLastEight() {
        at.of("the last 8 can be).");
        for (int acts : new int[] {0, 1, 7, 8, 9, 15, 16, 17, 24, 25}) {
            LeftAndRight x = acted(acts);
            int most = Math.min(acts, 8);
            at.due("that can be UNDONE of " + acts, x.count(6), most);
            for (int undone = 1; undone <= most; undone++) {
                at.due("undo() " + undone + " of " + acts, x.undo(), most - undone);
                at.due("the DAY then", x.count(2), (acts - undone) * (acts - undone + 1) / 2);
            }
            at.refused(() -> undone(acted(acts), most), "undo() of one more than can be of " + acts, LeftAndRight::undo, NO);
        }
        LeftAndRight x = undone(acted(9), 3);
        at.due("that can be UNDONE, 3 of 8 undone", x.count(6), 5);
        x.come(0, 1, 30, 5);
        x.hole(0);
        x.pass(60);
        at.due("and 3 acts more", x.count(6), 8);
        x.pass(1);
        at.due("and one more", x.count(6), 8);
        undone(x, 4);
        at.due("the DAY", x.count(2), 21);
        undone(x, 4);
        at.due("the DAY of the first that can be", x.count(2), 3);
        at.due("undo() of no more", x.undo(), NO);
    }

    private static LeftAndRight undone(LeftAndRight x, int times) {
        for (int i = 0; i < times; i++) {
            x.undo();
        }
        return x;
    }

    /** A rich state: a day, acts, what is heard and kept, a text that is written and not laid. */
    private static LeftAndRight rich() {
        LeftAndRight x = Check.laid(PAIR + "c1,0,72,40;c2,1,40,7;c3,1,66,26;f28,28;f60,61;g23,5;k7;k14;");
        x.pass(7);
        x.keep();
        x.hole(0);
        x.come(1, 0, 36, 9);
        x.keep();
        x.undo();
        x.pass(23);
        x.come(1, 0, 30, 8);
        x.heard(1, 4, 1);
        x.heard(9, 2, 0);
        return Check.write(x, "c0,0,44,4;f9,");
    }

    private static void clog() {
        at.of("Of a CLOG: KIND (what = 0), SIDE (1), how large it is (2), its WEIGHT (3), on which DAY it came (4). BAD.");
        for (int what = 0; what <= 4; what++) {
            int asked = what;
            at.ends(ShelfBoundariesTest::rich, "clog(i, " + what + ")", (x, i) -> x.clog(i, asked), 0, 5);
            at.ends(() -> Check.laid(CLOG), "clog(i, " + what + ") of one", (x, i) -> x.clog(i, asked), 0, 0);
            at.ends(() -> Check.laid(CLOG.repeat(10)), "clog(i, " + what + ") of ten", (x, i) -> x.clog(i, asked), 0, 9);
        }
        at.ends(ShelfBoundariesTest::rich, "clog(0, what)", (x, what) -> x.clog(0, what), 0, 4);
        at.ends(ShelfBoundariesTest::rich, "clog(5, what)", (x, what) -> x.clog(5, what), 0, 4);
        Supplier<LeftAndRight> none = () -> {
            LeftAndRight x = Check.laid(PAIR);
            x.go(0, 1);
            return x;
        };
        at.beyond(none, "clog(i, 0) of none", (x, i) -> x.clog(i, 0), -1, 0);
        LeftAndRight x = rich();
        int[] last = {1, 0, 30, 8, 30};
        for (int what = 0; what <= 4; what++) {
            at.due("clog(5, " + what + ")", x.clog(5, what), last[what]);
        }
    }

    private static void pass() {
        at.of("n (1 to 60) DAYS go by: which it is. BAD; NO: above 999.");
        at.ends(ShelfBoundariesTest::rich, "pass(n)", LeftAndRight::pass, 1, 60);
        for (int n : new int[] {1, 2, 59, 60}) {
            at.due("pass(" + n + ") on 30", rich().pass(n), 30 + n);
        }
        Supplier<LeftAndRight> last = () -> Check.onDay(CLOG, 999);
        at.beyond(last, "pass(n) on 999", LeftAndRight::pass, 0, 61);
        at.refused(last, "pass(1) on 999", x -> x.pass(1), NO);
        at.beyond(() -> Check.onDay(CLOG, 998), "pass(n) on 998", LeftAndRight::pass, 0, 61);
        at.refused(() -> Check.onDay(CLOG, 998), "pass(2) on 998", x -> x.pass(2), NO);
        at.due("pass(1) on 998", Check.onDay(CLOG, 998).pass(1), 999);
    }

    private static void comeEnds(Supplier<LeftAndRight> led, String name, boolean full) {
        String ofFull = full ? " when FULL" : "";
        int[] low = {0, 0, 12, 1};
        int[] high = {3, 1, 72, 40};
        String[] names = {"kind", "side", "size", "weight"};
        for (int part = 0; part < 4; part++) {
            int p = part;
            if (!full) {
                at.ends(led, name + names[p], (x, number) -> comeWith(x, p, number), low[p], high[p]);
                at.due(name + names[p] + " lowest", comeWith(led.get(), p, low[p]), 6);
                at.due(name + names[p] + " highest", comeWith(led.get(), p, high[p]), 6);
            } else {
                at.beyond(led, name + names[p] + ofFull, (x, number) -> comeWith(x, p, number), low[p] - 1, high[p] + 1);
                at.refused(led, name + names[p] + " lowest" + ofFull, x -> comeWith(x, p, low[p]), FULL);
                at.refused(led, name + names[p] + " highest" + ofFull, x -> comeWith(x, p, high[p]), FULL);
            }
        }
    }

    private static int comeWith(LeftAndRight x, int part, int number) {
        return x.come(part == 0 ? number : 1, part == 1 ? number : 0, part == 2 ? number : 30, part == 3 ? number : 5);
    }

    private static void come() {
        at.of("A CLOG comes, of a KIND, SIDE, so large, of such a weight: its number. BAD (as in a TEXT); FULL.");
        comeEnds(ShelfBoundariesTest::rich, "come(), ", false);
        comeEnds(() -> Check.laid(CLOG.repeat(10)), "come(), ", true);
        int[][] corners = {{0, 0, 12, 1}, {3, 1, 72, 40}, {2, 0, 12, 40}, {1, 1, 72, 1}};
        LeftAndRight x = Check.laid(CLOG);
        for (int i = 0; i < corners.length; i++) {
            int[] c = corners[i];
            at.due("come()", x.come(c[0], c[1], c[2], c[3]), i + 1);
            at.due("its KIND", x.clog(i + 1, 0), c[0]);
            at.due("its SIDE", x.clog(i + 1, 1), c[1]);
            at.due("how large it is", x.clog(i + 1, 2), c[2]);
            at.due("its WEIGHT", x.clog(i + 1, 3), c[3] + (c[0] == 3 ? 2 : 0));
        }
    }

    private static void go() {
        at.of("Two go (left a LEFT one, right a RIGHT one): how many CLOGS are left. BAD; NO: they are not so, or not ALIKE.");
        String text = "c0,0,30,5;c0,1,30,5;c0,1,32,5;c0,1,30,9;c2,1,30,5;c0,0,30,5;";
        Supplier<LeftAndRight> led = () -> {
            LeftAndRight x = Check.laid(text);
            x.pass(3);
            x.keep();
            x.heard(1, 3, 1);
            return x;
        };
        at.ends(led, "go(left, 1)", (x, left) -> x.go(left, 1), 0, 5);
        at.ends(led, "go(0, right)", (x, right) -> x.go(0, right), 0, 5);
        at.beyond(led, "go(left, 6)", (x, left) -> x.go(left, 6), -1, 6);
        // Not a LEFT one, but such a CLOG as there is: NO, not BAD.
        at.beyond(led, "go(1, right)", (x, right) -> x.go(1, right), -1, 6);
        int[][] notSo = {{1, 0}, {0, 5}, {5, 0}, {0, 0}, {1, 1}, {1, 2}, {0, 2}, {0, 3}, {0, 4}, {4, 0}};
        for (int[] two : notSo) {
            at.refused(led, "go(" + two[0] + ", " + two[1] + ")", x -> x.go(two[0], two[1]), NO);
        }
        at.due("go(0, 1)", led.get().go(0, 1), 4);
        at.due("go(5, 1)", led.get().go(5, 1), 4);
    }

    private static void hole() {
        at.of("One is HOLED (Z large, of weight W then): of which KIND it was. BAD; NO: it is.");
        at.ends(() -> Check.onDay(CLOG.repeat(10), 3), "hole(i) of ten", LeftAndRight::hole, 0, 9);
        at.ends(ShelfBoundariesTest::rich, "hole(i)", LeftAndRight::hole, 0, 5);
        for (int kind : new int[] {0, 1, 3}) {
            for (int day : new int[] {0, 29, 30, 31}) {
                LeftAndRight x = Check.onDay("c" + kind + ",1,72,40;", day);
                at.due("hole(0) of KIND " + kind, x.hole(0), kind);
                at.due("its KIND", x.clog(0, 0), 2);
                at.due("how large it is", x.clog(0, 2), 72);
                at.due("its WEIGHT", x.clog(0, 3), 40);
                at.due("its SIDE", x.clog(0, 1), 1);
                at.due("on which DAY it came", x.clog(0, 4), 0);
                at.due("HOLED ones", x.count(4), 1);
                x.pass(30);
                at.due("how large it is 30 DAYS on", x.clog(0, 2), 72);
                at.due("hole(0) once more", x.hole(0), NO);
            }
        }
        at.refused(() -> Check.onDay("c2,0,30,5;", 3), "hole(0) of a HOLED one", x -> x.hole(0), NO);
        Supplier<LeftAndRight> holed = () -> {
            LeftAndRight x = Check.onDay(CLOG, 3);
            x.hole(0);
            return x;
        };
        at.refused(holed, "hole(0) once more", x -> x.hole(0), NO);
        at.refused(ShelfBoundariesTest::rich, "hole(3), HOLED", x -> x.hole(3), NO);
    }

    private static void undo() {
        at.of("UNDONE: how many more can be. NO.");
        at.refused(() -> Check.laid(CLOG), "undo() of nothing", LeftAndRight::undo, NO);
        at.refused(() -> undone(acted(1), 1), "undo() of one undone", LeftAndRight::undo, NO);
        LeftAndRight x = acted(1);
        at.due("undo() of one", x.undo(), 0);
        at.due("undo() of none", x.undo(), NO);
        x = acted(2);
        at.due("undo() of two", x.undo(), 1);
        at.due("undo() of one", x.undo(), 0);
        at.due("undo() of none", x.undo(), NO);
        at.due("pass() then", x.pass(5), 5);
        at.due("undo() of it", x.undo(), 0);
        at.due("the DAY", x.count(2), 0);
        x = rich();
        int heard = x.count(5);
        int kept = x.count(7);
        int letters = x.count(8);
        undone(x, 8);
        at.due("what is HEARD is not UNDONE", x.count(5), heard);
        at.due("what is KEPT is not UNDONE", x.count(7), kept);
        at.due("letters are not UNDONE", x.count(8), letters);
    }
}
