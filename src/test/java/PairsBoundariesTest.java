import java.util.function.Supplier;

/** The boundaries that the document names for pairs, feet, drying, the log and sizes (promises 13 to 21), a sentence a test. */
public final class PairsBoundariesTest {
    private static final int BAD = -1, NONE = -4;
    private static final String CLOG = "c0,0,30,5;", LEFT = "c0,0,30,5;", RIGHT = "c0,1,30,5;", PAIR = LEFT + RIGHT;
    private static final Boundary at = new Boundary();

    public static void main(String[] args) {
        asManyPairsAsCanBe();
        noneInTwo();
        leastApart();
        severalWays();
        noneBehindAll();
        leftOverHoledOnesToo();
        leftFeet();
        rightFeet();
        servedAsManyAsCanBe();
        servedByPairsThatAreAlike();
        whoseBySizeAlone();
        alikeByFirst();
        alikeByAndNoMore();
        dryDays();
        smallest();
        sawnWithoutKnots();
        sawnAroundKnots();
        sawnLowest();
        keepSizes();
        mates();
        pairs();
        leftOver();
        served();
        whose();
        alikeBy();
        dry();
        sawn();
        sizes();
        at.end("PairsBoundariesTest");
    }

    /** A shelf from which all have gone. */
    private static LeftAndRight empty() {
        LeftAndRight x = Check.laid(PAIR + "f28,28;");
        x.go(0, 1);
        return x;
    }

    private static void partners(String text, int number, int apart, int... partners) {
        LeftAndRight x = Check.laid(text);
        at.due("pairs(-1) of " + text, x.pairs(-1), number);
        at.due("pairs(-2) of " + text, x.pairs(-2), apart);
        for (int k = 0; k < partners.length; k++) {
            at.due("pairs(" + k + ") of " + text, x.pairs(k), partners[k]);
        }
    }

    private static void asManyPairsAsCanBe() {
        at.of("PAIRS: as many as can be");
        partners(LEFT, 0, 0, NONE);
        partners(RIGHT, 0, 0, NONE);
        partners(PAIR, 1, 0, 1, 0);
        partners(LEFT.repeat(10), 0, 0, NONE, NONE, NONE, NONE, NONE, NONE, NONE, NONE, NONE, NONE);
        partners(RIGHT.repeat(10), 0, 0, NONE, NONE, NONE, NONE, NONE, NONE, NONE, NONE, NONE, NONE);
        partners(LEFT.repeat(4) + RIGHT.repeat(6), 4, 0, 4, 5, 6, 7, 0, 1, 2, 3, NONE, NONE);
        partners(LEFT.repeat(5) + RIGHT.repeat(5), 5, 0, 5, 6, 7, 8, 9, 0, 1, 2, 3, 4);
        partners(LEFT.repeat(6) + RIGHT.repeat(4), 4, 0, 6, 7, 8, 9, NONE, NONE, 0, 1, 2, 3);
        partners(RIGHT.repeat(5) + LEFT.repeat(5), 5, 0, 5, 6, 7, 8, 9, 0, 1, 2, 3, 4);
        partners("c2,1,30,5;".repeat(5) + LEFT.repeat(5), 0, 0, NONE, NONE, NONE, NONE, NONE, NONE, NONE, NONE, NONE, NONE);
        // More of them before less apart: 30 with 29 and 31 with 30, not 30 with 30 alone.
        partners("c0,0,30,5;c0,0,31,5;c0,1,30,5;c0,1,29,5;", 2, 2, 3, 2, 1, 0);
        // All five are 1 apart, though four could be none apart.
        partners("c0,0,30,5;c0,0,31,5;c0,0,32,5;c0,0,33,5;c0,0,34,5;c0,1,31,5;c0,1,32,5;c0,1,33,5;c0,1,34,5;c0,1,35,5;",
            5, 5, 5, 6, 7, 8, 9, 0, 1, 2, 3, 4);
        at.due("pairs(-1) of no CLOG", empty().pairs(-1), 0);
        at.due("pairs(-2) of no CLOG", empty().pairs(-2), 0);
    }

    private static void noneInTwo() {
        at.of("of CLOGS that are ALIKE, none in two: how many;");
        partners(LEFT + RIGHT + RIGHT, 1, 0, 1, 0, NONE);
        partners(LEFT + LEFT + RIGHT, 1, 0, 2, NONE, 0);
        partners(LEFT + LEFT + RIGHT + RIGHT, 2, 0, 2, 3, 0, 1);
        // Sizes 1 and weights 3 apart are ALIKE, one more is not.
        partners("c0,0,30,5;c0,1,31,8;", 1, 1, 1, 0);
        partners("c0,0,30,5;c0,1,31,9;", 0, 0, NONE, NONE);
        partners("c0,0,30,5;c0,1,32,8;", 0, 0, NONE, NONE);
        partners("c0,0,30,5;c2,1,30,5;", 0, 0, NONE, NONE);
    }

    private static void leastApart() {
        at.of("of all ways with as many that by which SIZES are least apart, all together");
        partners("c0,0,30,5;c0,1,31,5;", 1, 1, 1, 0);
        partners("c0,0,30,5;c0,1,31,5;c0,1,30,5;", 1, 0, 2, NONE, 0);
        partners("c0,0,30,5;c0,1,31,5;c0,1,29,5;", 1, 1, 1, 0, NONE);
        partners("c0,0,30,5;c0,0,31,5;c0,1,31,5;c0,1,30,5;", 2, 0, 3, 2, 1, 0);
        partners("c0,0,31,5;c0,0,30,5;c0,1,30,5;", 1, 0, NONE, 2, 1);
        // One pair 1 apart and one of 0, not two of 1.
        partners("c0,0,30,5;c0,0,30,5;c0,1,31,5;c0,1,31,5;c0,1,30,5;", 2, 1, 2, 4, 0, NONE, 1);
        // By SIZES alone: how far the weights are apart counts for nothing.
        partners("c0,0,30,5;c0,1,30,8;c0,1,31,5;", 1, 0, 1, 0, NONE);
        LeftAndRight x = Check.laid("c1,0,36,9;c0,1,35,9;");
        at.due("pairs(-2) on DAY 0", x.pairs(-2), 1);
        at.due("pairs(-2) on DAY 9", Check.passed(x, 9).pairs(-2), 1);
        at.due("pairs(-2) on DAY 10", Check.passed(x, 1).pairs(-2), 0);
        at.due("pairs(-2) on DAY 20", Check.passed(x, 10).pairs(-2), 1);
        at.due("pairs(-2) on DAY 30", Check.passed(x, 10).pairs(-2), 0);
        at.due("pairs(-1) on DAY 30", x.pairs(-1), 0);
    }

    private static void severalWays() {
        at.of("of several the first (LEFT ones in order: each with the lowest RIGHT one, with none behind all)");
        partners(LEFT + RIGHT + RIGHT, 1, 0, 1, 0, NONE);
        partners(RIGHT + RIGHT + LEFT, 1, 0, 2, NONE, 0);
        partners(LEFT + LEFT + RIGHT + RIGHT, 2, 0, 2, 3, 0, 1);
        partners(RIGHT + LEFT + RIGHT + LEFT, 2, 0, 1, 0, 3, 2);
        // Each way is 1 apart: the first LEFT one gets the lowest RIGHT one.
        partners("c0,0,31,5;c0,0,30,5;c0,1,30,5;c0,1,30,5;", 2, 1, 2, 3, 0, 1);
        partners("c0,0,30,5;c0,0,31,5;c0,1,31,5;c0,1,31,5;", 2, 1, 2, 3, 0, 1);
        // The lowest RIGHT one is the only one of the second LEFT one: the first one gets the next.
        partners("c0,0,30,8;c0,0,30,5;c0,1,30,5;c0,1,30,11;", 2, 0, 3, 2, 1, 0);
        partners("c0,0,30,5;c0,0,30,8;c0,1,30,5;c0,1,30,5;c0,1,30,11;", 2, 0, 2, 3, 0, 1, NONE);
    }

    private static void noneBehindAll() {
        at.of("each with the lowest RIGHT one, with none behind all): with whom one is; as much apart; none.");
        partners(LEFT + LEFT + RIGHT, 1, 0, 2, NONE, 0);
        partners(LEFT + LEFT + LEFT + RIGHT, 1, 0, 3, NONE, NONE, 0);
        partners("c0,0,31,5;c0,0,29,5;c0,1,30,5;", 1, 1, 2, NONE, 0);
        partners("c0,0,31,5;c0,0,29,5;c0,0,30,5;c0,1,30,5;", 1, 0, NONE, NONE, 3, 2);
        partners("c0,0,30,5;c0,0,30,5;c0,0,31,5;c0,1,30,5;c0,1,31,5;", 2, 0, 3, NONE, 4, 0, 2);
        partners("c2,0,30,5;c0,0,30,5;c0,1,30,5;", 1, 0, NONE, 2, 1);
    }

    private static void over(String text, int left, int right) {
        LeftAndRight x = Check.laid(text);
        at.due("leftOver(0) of " + text, x.leftOver(0), left);
        at.due("leftOver(1) of " + text, x.leftOver(1), right);
    }

    private static void leftOverHoledOnesToo() {
        at.of("LEFT OVER of a SIDE: how many are in no PAIR then (HOLED ones, too).");
        over(LEFT, 1, 0);
        over(RIGHT, 0, 1);
        over(PAIR, 0, 0);
        over(PAIR + LEFT, 1, 0);
        over(PAIR + RIGHT, 0, 1);
        over(LEFT.repeat(5) + RIGHT.repeat(5), 0, 0);
        over(LEFT.repeat(10), 10, 0);
        over(RIGHT.repeat(10), 0, 10);
        over(PAIR + "c2,0,30,5;", 1, 0);
        over(PAIR + "c2,1,30,5;", 0, 1);
        over("c2,0,30,5;".repeat(5) + "c2,1,30,5;".repeat(5), 5, 5);
        over("c0,0,30,5;c0,1,32,5;", 1, 1);
        LeftAndRight x = Check.laid(PAIR);
        x.hole(0);
        at.due("leftOver(0), it HOLED", x.leftOver(0), 1);
        at.due("leftOver(1), the other HOLED", x.leftOver(1), 1);
        at.due("leftOver(0) of no CLOG", empty().leftOver(0), 0);
        at.due("leftOver(1) of no CLOG", empty().leftOver(1), 0);
    }

    private static void servedOf(String text, int want) {
        at.due("served() of " + text, Check.laid(text).served(), want);
    }

    private static void leftFeet() {
        at.of("if its LEFT one is L and S or larger by 4 at most");
        for (int takes : new int[] {0, 2, 6}) {
            for (int larger = -2; larger <= 6; larger++) {
                int left = 30 - takes - larger;
                int right = 30 - takes - 2;
                servedOf(PAIR + "s" + takes + ";f" + left + "," + right + ";", larger >= 0 && larger <= 4 ? 1 : 0);
            }
        }
        servedOf("c0,0,12,5;c0,1,12,5;s2;f10,10;", 1);
        servedOf("c0,0,12,5;c0,1,12,5;s3;f10,10;", 0);
        servedOf("c0,0,72,5;c0,1,72,5;s0;f72,72;", 1);
        servedOf("c0,0,72,5;c0,1,72,5;s1;f72,72;", 0);
    }

    private static void rightFeet() {
        at.of("its RIGHT one R and S likewise.");
        for (int takes : new int[] {0, 2, 6}) {
            for (int larger = -2; larger <= 6; larger++) {
                int left = 30 - takes - 2;
                int right = 30 - takes - larger;
                servedOf(PAIR + "s" + takes + ";f" + left + "," + right + ";", larger >= 0 && larger <= 4 ? 1 : 0);
            }
        }
        // A LEFT one of 30 and a RIGHT one of 31: each by its own foot.
        servedOf("c0,0,30,5;c0,1,31,5;f28,29;", 1);
        servedOf("c0,0,30,5;c0,1,31,5;f29,29;", 0);
        servedOf("c0,0,30,5;c0,1,31,5;f24,27;", 1);
        servedOf("c0,0,30,5;c0,1,31,5;f24,24;", 0);
    }

    private static void servedAsManyAsCanBe() {
        at.of("SERVED: as many FEET as can be, each by a PAIR, no CLOG in two: how many.");
        String foot = "f28,28;";
        servedOf(PAIR, 0);
        servedOf(LEFT + foot, 0);
        servedOf(PAIR + foot, 1);
        servedOf(PAIR + foot + foot, 1);
        servedOf(LEFT + RIGHT + RIGHT + foot + foot, 1);
        servedOf(LEFT + LEFT + RIGHT + foot + foot, 1);
        servedOf(PAIR.repeat(2) + foot, 1);
        servedOf(PAIR.repeat(2) + foot + foot, 2);
        servedOf(PAIR.repeat(4) + foot.repeat(5), 4);
        servedOf(PAIR.repeat(5) + foot.repeat(4), 4);
        servedOf(PAIR.repeat(5) + foot.repeat(5), 5);
        servedOf(LEFT.repeat(6) + RIGHT.repeat(4) + foot.repeat(5), 4);
        // f28,28 fit 30 and 33 large, f31,31 but 33: both are served, whatever is told first.
        servedOf("c0,0,30,5;c0,1,30,5;c0,0,33,5;c0,1,33,5;f28,28;f31,31;", 2);
        servedOf("c0,0,33,5;c0,1,33,5;c0,0,30,5;c0,1,30,5;f28,28;f31,31;", 2);
        servedOf("c0,0,33,5;c0,1,33,5;c0,0,30,5;c0,1,30,5;f31,31;f28,28;", 2);
        servedOf("c0,0,33,5;c0,1,33,5;c0,0,30,5;c0,1,30,5;f31,31;f31,31;", 1);
        // f24,24 fit 0 with 1 alone, which both others need one of: without them two are served.
        servedOf("c0,0,30,5;c0,1,30,5;c0,0,31,5;c0,1,31,5;f24,24;f24,29;f29,24;", 2);
        servedOf("c0,0,30,5;c0,1,30,5;c0,0,31,5;c0,1,31,5;f24,24;", 1);
        // Three PAIRS can be, but both FEET need CLOG 2.
        servedOf("c0,0,30,5;c0,1,31,5;c0,0,32,5;c0,1,33,5;f29,29;f30,31;", 1);
        at.due("served() of no CLOG", empty().served(), 0);
    }

    private static void servedByPairsThatAreAlike() {
        at.of("FEET fit a PAIR that is ALIKE");
        servedOf("c0,0,30,5;c0,1,31,8;f28,28;", 1);
        servedOf("c0,0,30,5;c0,1,31,9;f28,28;", 0);
        servedOf("c0,0,30,5;c0,1,32,8;f28,28;", 0);
        servedOf("c0,0,30,5;c2,1,30,5;f28,28;", 0);
        servedOf("c2,0,30,5;c0,1,30,5;f28,28;", 0);
        servedOf("c0,0,30,5;c3,1,30,6;f28,28;", 1);
        servedOf("c0,0,30,5;c3,1,30,7;f28,28;", 0);
        // ALIKE are more than those of pairs(): 0 with 2 is, though pairs() says 0 with 1.
        servedOf("c0,0,30,5;c0,1,30,5;c0,1,31,5;f28,29;", 1);
        LeftAndRight x = Check.laid("c1,0,36,9;c1,1,36,9;f34,34;");
        at.due("served() on DAY 9", Check.passed(x, 9).served(), 1);
        at.due("served() on DAY 10", Check.passed(x, 1).served(), 0);
    }

    private static void whoseBySizeAlone() {
        at.of("WHOSE foot of that SIDE a CLOG may be for, by its size alone (bits of FEET).");
        for (int kind = 0; kind <= 3; kind++) {
            for (int takes : new int[] {0, 2, 6}) {
                for (int larger = -2; larger <= 6; larger++) {
                    int foot = 30 - takes - larger;
                    int bit = larger >= 0 && larger <= 4 ? 1 : 0;
                    String left = "c" + kind + ",0,30,40;s" + takes + ";f" + foot + ",72;";
                    String right = "c" + kind + ",1,30,1;s" + takes + ";f72," + foot + ";";
                    at.due("whose(0) of " + left, Check.laid(left).whose(0), bit);
                    at.due("whose(0) of " + right, Check.laid(right).whose(0), bit);
                }
            }
        }
        at.due("whose(0) without FEET", Check.laid(CLOG).whose(0), 0);
        at.due("whose(0), the last FEET alone", Check.laid(CLOG + "f72,28;f72,28;f72,28;f72,28;f28,72;").whose(0), 16);
        at.due("whose(0), all FEET", Check.laid(CLOG + "f28,72;f27,72;f26,72;f25,72;f24,72;").whose(0), 31);
        at.due("whose(0), all but the ends", Check.laid(CLOG + "f29,72;f27,72;f26,72;f25,72;f23,72;").whose(0), 14);
        LeftAndRight x = Check.laid("c1,0,36,9;f34,72;f33,72;f29,72;f28,72;");
        at.due("whose(0) on DAY 0", x.whose(0), 1 + 2);
        at.due("whose(0) on DAY 9", Check.passed(x, 9).whose(0), 1 + 2);
        at.due("whose(0) on DAY 10", Check.passed(x, 1).whose(0), 2 + 4);
        x.hole(0);
        at.due("whose(0), HOLED", x.whose(0), 1 + 2);
    }

    private static void alikeByFirst() {
        at.of("ALIKE BY: behind how many DAYS (0 to 60) two are ALIKE first; none.");
        String green = "c1,0,36,9;";
        int[] sizes = {37, 36, 35, 34, 33, 32, 31, 30};
        int[] days = {0, 0, 0, 10, 20, 30, NONE, NONE};
        for (int i = 0; i < sizes.length; i++) {
            String text = green + "c0,1," + sizes[i] + ",9;";
            at.due("alikeBy(0, 1) of " + text, Check.laid(text).alikeBy(0, 1), days[i]);
        }
        at.due("alikeBy(0, 1), larger from the first on", Check.laid(green + "c0,1,38,9;").alikeBy(0, 1), NONE);
        String last = green + "c0,1,32,9;";
        int[] passed = {0, 1, 29, 30, 31, 60};
        int[] left = {30, 29, 1, 0, 0, 0};
        for (int i = 0; i < passed.length; i++) {
            at.due("alikeBy(0, 1) on DAY " + passed[i], Check.onDay(last, passed[i]).alikeBy(0, 1), left[i]);
        }
        // By weight: 30 heavy is 26 from DAY 12 on.
        at.due("alikeBy(0, 1) by weight", Check.laid("c1,0,20,30;c0,1,20,23;").alikeBy(0, 1), 12);
        LeftAndRight x = Check.onDay(CLOG, 999);
        x.come(1, 0, 36, 9);
        x.come(0, 1, 32, 9);
        at.due("alikeBy(1, 2) on the last DAY", x.alikeBy(1, 2), 30);
        at.due("the DAY then", x.count(2), 999);
    }

    private static void alikeByAndNoMore() {
        at.of("two are ALIKE first; none.");
        // Both dry to 33, the one that came 20 DAYS behind as much later.
        LeftAndRight x = Check.laid("c1,0,36,9;");
        Check.passed(x, 20).come(1, 1, 36, 9);
        at.due("alikeBy(0, 1), 34 and 36 large", x.alikeBy(0, 1), 20);
        at.due("alikeBy(0, 1) 10 DAYS on, 33 and 35", Check.passed(x, 10).alikeBy(0, 1), 10);
        at.due("alikeBy(0, 1) 20 DAYS on, 33 and 34", Check.passed(x, 10).alikeBy(0, 1), 0);
        // 36 large and 36: so to DAY 19, no more from 20 on.
        at.due("alikeBy(0, 1) on DAY 19", Check.onDay("c1,0,36,9;c0,1,36,9;", 19).alikeBy(0, 1), 0);
        at.due("alikeBy(0, 1) on DAY 20", Check.onDay("c1,0,36,9;c0,1,36,9;", 20).alikeBy(0, 1), NONE);
        // 60 large and 30 heavy: 58 and 26 from DAY 12 on, 55 from 30 on.
        String between = "c1,0,60,30;c0,1,57,23;";
        int[] days = {0, 11, 12, 29, 30};
        int[] want = {12, 1, 0, 0, NONE};
        for (int i = 0; i < days.length; i++) {
            at.due("alikeBy(0, 1) of " + between + " on DAY " + days[i], Check.onDay(between, days[i]).alikeBy(0, 1), want[i]);
        }
        at.due("alikeBy(0, 1), a HOLED LEFT one", Check.laid("c2,0,30,5;c0,1,30,5;").alikeBy(0, 1), NONE);
        at.due("alikeBy(0, 1), a HOLED RIGHT one", Check.laid("c0,0,30,5;c2,1,30,5;").alikeBy(0, 1), NONE);
    }

    private static void dryDays() {
        at.of("DRY: behind how many DAYS (0 to 30) one is no less on any later one");
        for (int kind : new int[] {0, 2, 3}) {
            at.due("dry(0, 0) of KIND " + kind, Check.laid("c" + kind + ",0,72,40;").dry(0, 0), 0);
        }
        // 12 times 30 is 360; 25 times 28 is 700, times 29 is 725; 13 times 28 is 364; 45 times 24 is 1080.
        int[] sizes = {12, 25, 13, 45, 24, 72, 36};
        int[] days = {30, 29, 28, 24, 30, 30, 30};
        for (int i = 0; i < sizes.length; i++) {
            String text = "c1,1," + sizes[i] + ",9;";
            for (int passed : new int[] {0, 1, days[i] - 1, days[i], days[i] + 1, 60, 999}) {
                at.due("dry(0, 0) of " + text + " on DAY " + passed, Check.onDay(text, passed).dry(0, 0), Math.max(0, days[i] - passed));
            }
        }
        LeftAndRight x = Check.onDay(CLOG, 999);
        x.come(1, 0, 12, 9);
        at.due("dry(1, 0) of one that came on the last DAY", x.dry(1, 0), 30);
        at.due("dry(1, 1) of it", x.dry(1, 1), 11);
        x.hole(1);
        at.due("dry(1, 0) of it HOLED", x.dry(1, 0), 0);
    }

    private static void smallest() {
        at.of("SMALLEST: how large it is then.");
        int[] sizes = {12, 13, 23, 24, 25, 36, 71, 72};
        int[] least = {11, 12, 22, 22, 23, 33, 66, 66};
        for (int i = 0; i < sizes.length; i++) {
            for (int passed : new int[] {0, 29, 30, 31}) {
                at.due("dry(0, 1) of GREEN " + sizes[i] + " on DAY " + passed, Check.onDay("c1,0," + sizes[i] + ",9;", passed).dry(0, 1), least[i]);
            }
            for (int kind : new int[] {0, 2, 3}) {
                at.due("dry(0, 1) of KIND " + kind, Check.onDay("c" + kind + ",0," + sizes[i] + ",9;", 30).dry(0, 1), sizes[i]);
            }
        }
        LeftAndRight x = Check.laid("c1,0,72,9;");
        x.hole(0);
        at.due("dry(0, 1) of a HOLED one", x.dry(0, 1), 72);
    }

    private static void sawnOf(String log, int... begins) {
        LeftAndRight x = Check.laid(CLOG + log);
        at.due("sawn(-1) of " + log, x.sawn(-1), begins.length);
        for (int k = 0; k < begins.length; k++) {
            at.due("sawn(" + k + ") of " + log, x.sawn(k), begins[k]);
        }
        at.due("sawn(" + begins.length + ") of " + log, x.sawn(begins.length), NONE);
        at.due("sawn(" + (begins.length + 1) + ") of " + log, x.sawn(begins.length + 1), NONE);
    }

    private static void sawnWithoutKnots() {
        at.of("SAWN: of all ways to saw the LOG from its first piece on into BLOCKS");
        sawnOf("g1,2;");
        sawnOf("g2,2;", 0);
        sawnOf("g3,2;", 0);
        sawnOf("g4,2;", 0, 2);
        sawnOf("g8,9;");
        sawnOf("g9,9;", 0);
        sawnOf("g17,9;", 0);
        sawnOf("g18,9;", 0, 9);
        sawnOf("g35,9;", 0, 9, 18);
        sawnOf("g36,9;", 0, 9, 18, 27);
        sawnOf("g40,9;", 0, 9, 18, 27);
        sawnOf("g40,2;", 0, 2, 4, 6, 8, 10, 12, 14, 16, 18, 20, 22, 24, 26, 28, 30, 32, 34, 36, 38);
        sawnOf("g39,2;", 0, 2, 4, 6, 8, 10, 12, 14, 16, 18, 20, 22, 24, 26, 28, 30, 32, 34, 36);
    }

    private static void sawnAroundKnots() {
        at.of("into BLOCKS that have no KNOT and single pieces");
        sawnOf("g4,4;k0;");
        sawnOf("g4,4;k3;");
        sawnOf("g4,4;k4;", 0);
        sawnOf("g5,4;k0;", 1);
        sawnOf("g5,4;k1;");
        sawnOf("g5,4;k4;", 0);
        sawnOf("g8,4;k3;", 4);
        sawnOf("g8,4;k4;", 0);
        sawnOf("g8,4;k7;", 0);
        sawnOf("g9,4;k4;", 0, 5);
        sawnOf("g9,4;k3;", 4);
        sawnOf("g9,4;k5;", 0);
        sawnOf("g40,9;k9;k19;k29;k39;", 0, 10, 20, 30);
        sawnOf("g40,9;k8;k18;k28;k38;", 9, 19, 29);
        sawnOf("g40,9;k38;", 0, 9, 18, 27);
        sawnOf("g40,9;k35;", 0, 9, 18);
        sawnOf("g40,9;k39;k30;", 0, 9, 18);
        sawnOf("g40,9;k3;k30;", 4, 13, 31);
        sawnOf("g3,2;k0;k1;k2;");
    }

    private static void sawnLowest() {
        at.of("that by which there are most BLOCKS, of several that by which the first BLOCK begins lowest, then the second, ..");
        sawnOf("g5,4;", 0);
        sawnOf("g9,4;", 0, 4);
        sawnOf("g11,4;", 0, 4);
        sawnOf("g12,4;", 0, 4, 8);
        sawnOf("g13,4;k4;", 0, 5, 9);
        sawnOf("g14,4;k5;", 0, 6, 10);
        sawnOf("g13,4;k5;", 0, 6);
        sawnOf("g20,5;k2;", 3, 8, 13);
        sawnOf("g20,5;k7;k14;", 0, 8, 15);
    }

    private static void sizesOf(LeftAndRight x, int k, int from, int many) {
        at.due("sizes(" + k + ", 0)", x.sizes(k, 0), from);
        at.due("sizes(" + k + ", 1)", x.sizes(k, 1), many);
    }

    private static void keepSizes() {
        at.of("KEEP for k (1 to 5): the lowest size from which on k sizes, one behind the other, have most CLOGS that are not HOLED; how many.");
        LeftAndRight x = Check.laid("c0,0,30,5;");
        for (int k = 1; k <= 5; k++) {
            sizesOf(x, k, 31 - k, 1);
        }
        x = Check.laid("c0,0,30,5;c0,1,34,5;");
        sizesOf(x, 1, 30, 1);
        sizesOf(x, 4, 27, 1);
        sizesOf(x, 5, 30, 2);
        x = Check.laid("c0,0,30,5;c0,1,35,5;");
        sizesOf(x, 5, 26, 1);
        x = Check.laid("c0,0,40,5;c0,1,30,5;c0,1,40,5;c0,0,30,5;");
        sizesOf(x, 1, 30, 2);
        x = Check.laid("c0,0,40,5;c0,1,30,5;c0,1,40,5;c2,0,30,5;c2,0,30,5;");
        sizesOf(x, 1, 40, 2);
        x = Check.laid(CLOG.repeat(10));
        sizesOf(x, 1, 30, 10);
        sizesOf(x, 5, 26, 10);
        x = Check.laid("c2,0,30,5;");
        sizesOf(x, 1, 1, 0);
        sizesOf(x, 5, 1, 0);
        sizesOf(empty(), 1, 1, 0);
        sizesOf(empty(), 5, 1, 0);
        x = Check.laid("c1,0,36,5;c0,0,33,5;");
        sizesOf(Check.passed(x, 9), 3, 31, 1);
        sizesOf(Check.passed(x, 1), 3, 33, 2);
    }

    private static void mates() {
        at.of("ALIKE: RIGHT ones (LEFT ones) to a LEFT (RIGHT) one, as bits. BAD.");
        Supplier<LeftAndRight> ten = () -> Check.laid(LEFT + RIGHT.repeat(9));
        at.ends(ten, "mates(i) of ten", LeftAndRight::mates, 0, 9);
        at.due("mates(0) of ten", ten.get().mates(0), 1022);
        at.due("mates(9) of ten", ten.get().mates(9), 1);
        LeftAndRight x = Check.laid(LEFT.repeat(9) + RIGHT);
        at.due("mates(9), nine LEFT ones", x.mates(9), 511);
        at.due("mates(8)", x.mates(8), 512);
        at.ends(() -> Check.laid(CLOG), "mates(i) of one", LeftAndRight::mates, 0, 0);
        at.due("mates(0) of one", Check.laid(CLOG).mates(0), 0);
        at.beyond(PairsBoundariesTest::empty, "mates(i) of none", LeftAndRight::mates, -1, 0);
    }

    private static void pairs() {
        at.of("PAIRS: how many (k = -1), apart (-2), with whom the CLOG k is. NONE; BAD.");
        at.ends(() -> Check.laid(LEFT.repeat(5) + RIGHT.repeat(5)), "pairs(k) of ten", LeftAndRight::pairs, -2, 9);
        at.ends(() -> Check.laid(PAIR + CLOG), "pairs(k) of three", LeftAndRight::pairs, -2, 2);
        at.ends(() -> Check.laid(CLOG), "pairs(k) of one", LeftAndRight::pairs, -2, 0);
        at.ends(PairsBoundariesTest::empty, "pairs(k) of none", LeftAndRight::pairs, -2, -1);
        LeftAndRight x = Check.laid("c0,0,30,5;c0,1,31,5;c0,0,40,5;");
        int[] want = {BAD, 1, 1, 1, 0, NONE, BAD};
        for (int k = -3; k <= 3; k++) {
            at.due("pairs(" + k + ")", x.pairs(k), want[k + 3]);
        }
        at.refused(() -> Check.laid(PAIR + CLOG), "pairs(2)", one -> one.pairs(2), NONE);
    }

    private static void leftOver() {
        at.of("LEFT OVER. BAD.");
        at.ends(() -> Check.laid(PAIR + CLOG), "leftOver(side)", LeftAndRight::leftOver, 0, 1);
        at.ends(PairsBoundariesTest::empty, "leftOver(side) of none", LeftAndRight::leftOver, 0, 1);
        LeftAndRight x = Check.laid(LEFT + LEFT + RIGHT);
        int[] want = {BAD, 1, 0, BAD};
        for (int side = -1; side <= 2; side++) {
            at.due("leftOver(" + side + ")", x.leftOver(side), want[side + 1]);
        }
    }

    private static void served() {
        at.of("`int served()`: SERVED.");
        LeftAndRight x = Check.laid(PAIR + "f28,28;");
        at.due("served()", x.served(), 1);
        at.due("served() once more", x.served(), 1);
        x.hole(1);
        at.due("served(), one HOLED", x.served(), 0);
        x.undo();
        at.due("served(), undone", x.served(), 1);
        x.go(0, 1);
        at.due("served(), both gone", x.served(), 0);
        x.come(0, 1, 30, 5);
        at.due("served(), one come", x.served(), 0);
        x.come(0, 0, 30, 5);
        at.due("served(), both come", x.served(), 1);
    }

    private static void whose() {
        at.of("WHOSE, as bits. BAD.");
        at.ends(() -> Check.laid(CLOG.repeat(10) + "f28,28;"), "whose(i) of ten", LeftAndRight::whose, 0, 9);
        at.ends(() -> Check.laid(PAIR), "whose(i) of two", LeftAndRight::whose, 0, 1);
        at.beyond(PairsBoundariesTest::empty, "whose(i) of none", LeftAndRight::whose, -1, 0);
        LeftAndRight x = Check.laid("c0,0,30,5;c0,1,31,5;f28,30;f30,29;");
        int[] want = {BAD, 1, 2, BAD};
        for (int i = -1; i <= 2; i++) {
            at.due("whose(" + i + ")", x.whose(i), want[i + 1]);
        }
    }

    private static void alikeBy() {
        at.of("ALIKE BY. NONE; BAD: no LEFT one, no RIGHT one.");
        Supplier<LeftAndRight> led = () -> Check.laid(LEFT + RIGHT + LEFT + RIGHT + "c0,0,40,5;");
        for (int right : new int[] {1, 3}) {
            at.due("alikeBy(0, " + right + ")", led.get().alikeBy(0, right), 0);
            at.due("alikeBy(2, " + right + ")", led.get().alikeBy(2, right), 0);
            at.due("alikeBy(4, " + right + ")", led.get().alikeBy(4, right), NONE);
        }
        int[][] bad = {{0, 0}, {0, 2}, {0, 4}, {1, 1}, {1, 3}, {1, 0}, {3, 2}, {1, 2}};
        for (int[] two : bad) {
            at.refused(led, "alikeBy(" + two[0] + ", " + two[1] + ")", x -> x.alikeBy(two[0], two[1]), BAD);
        }
        at.beyond(led, "alikeBy(left, 1)", (x, left) -> x.alikeBy(left, 1), -1, 5);
        at.beyond(led, "alikeBy(0, right)", (x, right) -> x.alikeBy(0, right), -1, 5);
        at.beyond(led, "alikeBy(i, i)", (x, i) -> x.alikeBy(i, i), -1, 5);
        at.refused(led, "alikeBy(4, 1)", x -> x.alikeBy(4, 1), NONE);
        Supplier<LeftAndRight> ten = () -> Check.laid(LEFT + "c2,0,30,5;".repeat(8) + RIGHT);
        at.due("alikeBy(0, 9)", ten.get().alikeBy(0, 9), 0);
        at.beyond(ten, "alikeBy(0, right) of ten", (x, right) -> x.alikeBy(0, right), -1, 10);
    }

    private static void dry() {
        at.of("DRY (what = 0), SMALLEST (1). BAD.");
        Supplier<LeftAndRight> ten = () -> Check.laid("c1,0,72,40;".repeat(10));
        at.ends(ten, "dry(i, 0) of ten", (x, i) -> x.dry(i, 0), 0, 9);
        at.ends(ten, "dry(i, 1) of ten", (x, i) -> x.dry(i, 1), 0, 9);
        at.ends(ten, "dry(9, what)", (x, what) -> x.dry(9, what), 0, 1);
        at.ends(() -> Check.laid(PAIR), "dry(i, 0) of two", (x, i) -> x.dry(i, 0), 0, 1);
        at.beyond(PairsBoundariesTest::empty, "dry(i, 0) of none", (x, i) -> x.dry(i, 0), -1, 0);
        int[] want = {BAD, 30, 66, BAD};
        for (int what = -1; what <= 2; what++) {
            at.due("dry(9, " + what + ")", ten.get().dry(9, what), want[what + 1]);
        }
    }

    private static void sawn() {
        at.of("SAWN: how many (k = -1), where the k-th BLOCK begins (0 first; NONE: there are not so many). BAD.");
        LeftAndRight x = Check.laid(CLOG + "g9,4;");
        int[] want = {BAD, BAD, 2, 0, 4, NONE, NONE};
        for (int k = -3; k <= 3; k++) {
            at.due("sawn(" + k + ")", x.sawn(k), want[k + 3]);
        }
        Supplier<LeftAndRight> led = () -> Check.laid(CLOG + "g9,4;");
        for (int k : new int[] {Integer.MIN_VALUE, -65537, -3, -2}) {
            at.refused(led, "sawn(" + k + ")", one -> one.sawn(k), BAD);
        }
        for (int k : new int[] {2, 3, 8, 9, 39, 40, 65536, Integer.MAX_VALUE}) {
            at.refused(led, "sawn(" + k + ")", one -> one.sawn(k), NONE);
        }
        x = Check.laid(CLOG + "g1,2;");
        at.due("sawn(-1) of a LOG too short", x.sawn(-1), 0);
        at.due("sawn(0) of a LOG too short", x.sawn(0), NONE);
        x = Check.laid(CLOG + "g40,2;");
        at.due("sawn(19) of the longest", x.sawn(19), 38);
        at.due("sawn(20) of the longest", x.sawn(20), NONE);
    }

    private static void sizes() {
        at.of("KEEP: from which size on (what = 0; 1 to 72), how many (1). BAD.");
        Supplier<LeftAndRight> led = () -> Check.laid(PAIR + "c1,0,72,40;");
        at.ends(led, "sizes(k, 0)", (x, k) -> x.sizes(k, 0), 1, 5);
        at.ends(led, "sizes(k, 1)", (x, k) -> x.sizes(k, 1), 1, 5);
        at.ends(led, "sizes(1, what)", (x, what) -> x.sizes(1, what), 0, 1);
        at.ends(led, "sizes(5, what)", (x, what) -> x.sizes(5, what), 0, 1);
        at.ends(PairsBoundariesTest::empty, "sizes(k, 0) of none", (x, k) -> x.sizes(k, 0), 1, 5);
        LeftAndRight x = Check.laid("c1,0,12,5;");
        for (int k = 1; k <= 5; k++) {
            sizesOf(x, k, 13 - k, 1);
        }
        Check.passed(x, 30);
        for (int k = 1; k <= 5; k++) {
            sizesOf(x, k, 12 - k, 1);
        }
        x = Check.laid("c0,0,72,5;c2,0,12,5;");
        for (int k = 1; k <= 5; k++) {
            sizesOf(x, k, 73 - k, 1);
        }
        x = Check.laid("c0,0,71,5;c0,1,72,5;");
        sizesOf(x, 1, 71, 1);
        sizesOf(x, 2, 71, 2);
        sizesOf(x, 3, 70, 2);
        sizesOf(x, 5, 68, 2);
    }
}
