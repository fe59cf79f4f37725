import java.util.function.Supplier;

/** The boundaries that the document names for THE TEXT and for what is laid (promises 1 to 5 and 7), a sentence a test. */
public final class TextBoundariesTest {
    private static final int BAD = -1, NO = -2, FULL = -3, NONE = -4;
    private static final String CLOG = "c0,0,30,5;";
    private static final Boundary at = new Boundary();

    public static void main(String[] args) {
        lettersAtMost200();
        itemsOneBehindTheOther();
        eachALetter();
        oneOrTwoFigures();
        partedByCommas();
        semicolonBehindTheLast();
        aClogHasFourNumbers();
        kindsOfClogs();
        sidesOfClogs();
        sizesOfClogs();
        weightsOfClogs();
        tenClogsAtMost();
        feetHaveTwoNumbers();
        sizesOfFeet();
        fiveFeetAtMost();
        aLogHasTwoNumbers();
        lengthsOfLogs();
        lengthsOfBlocks();
        logWithoutAnItem();
        lastLogCounts();
        aKnotHasOneNumber();
        placesOfKnots();
        knotsOnceMoreOrBeyond();
        aStockingHasOneNumber();
        stockings();
        stockingWithoutAnItem();
        lastStockingCounts();
        firstFault();
        laidWithoutFaultAndWithAClog();
        laidAtFirst();
        aNewObjectsText();
        lettersToWrite();
        wipe();
        faultOfNone();
        lay();
        feet();
        at.end("TextBoundariesTest");
    }

    private static LeftAndRight written(String text) {
        return Check.write(new LeftAndRight(), text);
    }

    /** A text without a fault, with clogs enough: it is laid. */
    private static LeftAndRight so(String text) {
        LeftAndRight x = written(text);
        at.due("fault() of " + text, x.fault(), NONE);
        at.due("lay() of " + text, x.lay(), (int) text.chars().filter(letter -> letter == 'c').count());
        return x;
    }

    /** A text that begins with an item that is not so: the fault is there, behind a clog too, and nothing is laid. */
    private static void notSo(String text) {
        at.due("fault() of " + text, written(text).fault(), 0);
        fault(CLOG + text, 10);
    }

    private static void fault(String text, int place) {
        at.due("fault() of " + text, written(text).fault(), place);
        at.refused(() -> written(text), "lay() of " + text, LeftAndRight::lay, NO);
    }

    private static void lettersAtMost200() {
        at.of("A TEXT is letters (200 at most)");
        String text = CLOG.repeat(10) + "k00;".repeat(25);
        LeftAndRight x = written(text.substring(0, 198));
        at.due("count(8) of 198", x.count(8), 198);
        at.due("write(), letter 199", x.write('0'), 199);
        at.due("fault() of 199", x.fault(), 196);
        at.due("write(), letter 200", x.write(';'), 200);
        at.due("fault() of 200", x.fault(), NONE);
        at.due("write(), letter 201", x.write(';'), FULL);
        at.due("write(), letter 201 once more", x.write('k'), FULL);
        at.due("fault() then", x.fault(), NONE);
        at.due("lay() of 200", x.lay(), 10);
        at.refused(() -> written(text), "write(';') behind 200", full -> full.write(';'), FULL);
        at.refused(() -> written("z".repeat(200)), "write('z') behind 200", full -> full.write('z'), FULL);
    }

    private static void itemsOneBehindTheOther() {
        at.of("ITEMS one behind the other");
        at.due("fault() of no item", written("").fault(), NONE);
        so(CLOG);
        so(CLOG + CLOG);
        so("s0;k0;g1,2;f10,10;" + CLOG);
        fault(CLOG + " " + CLOG, 10);
        fault(CLOG + ";" + CLOG, 10);
        fault(CLOG + "," + CLOG, 10);
        fault(" " + CLOG, 0);
        fault(CLOG + " ", 10);
    }

    private static void eachALetter() {
        at.of("each a letter, then numbers");
        String[] numbers = {"1;", "1,1,12,1;", "20,9;", "20,12;"};
        String[] letters = {"ks", "c", "g", "f"};
        for (int i = 0; i < numbers.length; i++) {
            for (char letter = 32; letter <= 126; letter++) {
                int want = letters[i].indexOf(letter) >= 0 ? NONE : 0;
                at.due("fault() of " + letter + numbers[i], written(letter + numbers[i]).fault(), want);
            }
        }
        notSo("20,9;");
        notSo("cc0,0,30,5;");
        notSo("C0,0,30,5;");
    }

    private static void oneOrTwoFigures() {
        at.of("numbers (one or two figures)");
        // What stands before a number, one figure, two figures, what stands behind it.
        String[][] numbers = {{"c", "3", "03", ",0,30,5;"}, {"c0,", "1", "01", ",30,5;"}, {"c0,0,30,", "5", "05", ";"},
            {"g", "9", "09", ",4;"}, {"g20,", "4", "04", ";"}, {"k", "7", "07", ";"}, {"s", "6", "06", ";"}};
        for (String[] number : numbers) {
            figures(number, "");
            so(CLOG + number[0] + number[1] + number[3]);
        }
        String[][] largeNumbers = {{"c0,0,", "9", "30", ",5;"}, {"f", "9", "30", ",30;"}, {"f30,", "9", "30", ";"}};
        for (String[] number : largeNumbers) {
            figures(number, "");
            figures(number, number[1]);
        }
    }

    /** The number is so with two figures, but neither with three nor with these. */
    private static void figures(String[] number, String notTheseFigures) {
        notSo(number[0] + notTheseFigures + number[3]);
        so(CLOG + number[0] + number[2] + number[3]);
        notSo(number[0] + "0" + number[2] + number[3]);
        notSo(number[0] + number[2] + "0" + number[3]);
        notSo(number[0] + "00" + number[2] + number[3]);
    }

    private static void partedByCommas() {
        at.of("parted by ,");
        for (char between = 32; between <= 126; between++) {
            String text = "g9" + between + "9;";
            at.due("fault() of " + text, written(text).fault(), between == ',' ? NONE : 0);
        }
        so("c0,0,30,5;");
        notSo("c00,30,5;");
        notSo("c0,,0,30,5;");
        notSo("c,0,0,30,5;");
        notSo("c0,0,30,5,;");
        notSo("c0, 0,30,5;");
        notSo("c0 ,0,30,5;");
        notSo("k,1;");
        notSo("k1,;");
    }

    private static void semicolonBehindTheLast() {
        at.of("and a ; behind the last one");
        for (char behind = 32; behind <= 126; behind++) {
            at.due("fault() of k1" + behind, written("k1" + behind).fault(), behind == ';' ? NONE : 0);
        }
        notSo("c0,0,30,5");
        so("c0,0,30,5;");
        fault("c0,0,30,5;;", 10);
        notSo("c0,0,30,5k1;");
        LeftAndRight x = written("c0,0,30,5");
        at.due("fault() before the ;", x.fault(), 0);
        x.write(';');
        at.due("fault() with the ;", x.fault(), NONE);
        x.write(';');
        at.due("fault() with one more", x.fault(), 10);
    }

    private static void aClogHasFourNumbers() {
        at.of("cK,S,Z,W a CLOG of KIND K");
        notSo("c0;");
        notSo("c0,0;");
        notSo("c0,0,30;");
        so("c0,0,30,5;");
        notSo("c0,0,30,5,5;");
        notSo("c0,0,30,5,5,5;");
    }

    private static void kindsOfClogs() {
        at.of("KIND K (0 DRY, 1 GREEN, 2 HOLED, 3 BUTT)");
        for (int kind = 0; kind <= 3; kind++) {
            LeftAndRight x = so("c" + kind + ",0,72,40;");
            x.pass(30);
            at.due("KIND " + kind, x.clog(0, 0), kind);
            at.due("KIND " + kind + ", how large", x.clog(0, 2), kind == 1 ? 66 : 72);
            at.due("KIND " + kind + ", WEIGHT", x.clog(0, 3), kind == 1 ? 27 : kind == 3 ? 42 : 40);
            at.due("KIND " + kind + ", HOLED ones", x.count(4), kind == 2 ? 1 : 0);
        }
        notSo("c4,0,30,5;");
        notSo("c5,0,30,5;");
        notSo("c-1,0,30,5;");
        notSo("c99,0,30,5;");
    }

    private static void sidesOfClogs() {
        at.of("SIDE S (0 LEFT, 1 RIGHT)");
        for (int side = 0; side <= 1; side++) {
            LeftAndRight x = so("c0," + side + ",30,5;");
            at.due("SIDE " + side, x.clog(0, 1), side);
            at.due("LEFT ones", x.leftOver(0), 1 - side);
            at.due("RIGHT ones", x.leftOver(1), side);
        }
        notSo("c0,2,30,5;");
        notSo("c0,3,30,5;");
        notSo("c0,-1,30,5;");
        notSo("c0,99,30,5;");
    }

    private static void sizesOfClogs() {
        at.of("Z (12 to 72) large");
        for (int size : new int[] {12, 13, 42, 71, 72}) {
            at.due("Z of " + size, so("c0,0," + size + ",5;").clog(0, 2), size);
        }
        for (int size : new int[] {0, 9, 10, 11, 73, 74, 99}) {
            notSo("c0,0," + size + ",5;");
        }
    }

    private static void weightsOfClogs() {
        at.of("that weighs W (1 to 40)");
        for (int weight : new int[] {1, 2, 20, 39, 40}) {
            at.due("W of " + weight, so("c0,0,30," + weight + ";").clog(0, 3), weight);
        }
        for (int weight : new int[] {0, 41, 42, 99}) {
            notSo("c0,0,30," + weight + ";");
        }
        notSo("c0,0,30,00;");
    }

    private static void tenClogsAtMost() {
        at.of("that weighs W (1 to 40); 10 at most, 0, 1, ..");
        StringBuilder clogs = new StringBuilder();
        for (int number = 0; number < 10; number++) {
            clogs.append("c0,0,30,1").append(number).append(";");
            if (number >= 8) {
                LeftAndRight x = so(clogs.toString());
                for (int i = 0; i <= number; i++) {
                    at.due("WEIGHT of CLOG " + i + " of " + (number + 1), x.clog(i, 3), 10 + i);
                }
                at.due("CLOG " + (number + 1), x.clog(number + 1, 3), BAD);
            }
        }
        fault(clogs + "c0,0,30,5;", 110);
        fault(clogs + "c0,0,30,5;c0,0,30,5;", 110);
        so(clogs + "k1;s1;f30,30;g9,9;");
        fault(clogs + "k1;c0,0,30,5;", 113);
    }

    private static void feetHaveTwoNumbers() {
        at.of("fL,R FEET that are L, R");
        notSo("f30;");
        so(CLOG + "f30,30;");
        notSo("f30,30,30;");
        notSo("f30,30,30,30;");
    }

    private static void sizesOfFeet() {
        at.of("FEET that are L, R (10 to 72) large wait");
        for (int size : new int[] {10, 11, 42, 71, 72}) {
            at.due("L of " + size, so(CLOG + "f" + size + ",30;").feet(0, 0), size);
            at.due("R of " + size, so(CLOG + "f30," + size + ";").feet(0, 1), size);
        }
        for (int size : new int[] {0, 8, 9, 73, 74, 99}) {
            notSo("f" + size + ",30;");
            notSo("f30," + size + ";");
        }
    }

    private static void fiveFeetAtMost() {
        at.of("wait; 5 at most, 0, 1, ..");
        String four = CLOG + "f10,20;f11,21;f12,22;f13,23;";
        for (String text : new String[] {four, four + "f14,24;"}) {
            LeftAndRight x = so(text);
            int feet = text.equals(four) ? 4 : 5;
            at.due("FEET", x.count(1), feet);
            for (int f = 0; f < feet; f++) {
                at.due("L of FEET " + f, x.feet(f, 0), 10 + f);
                at.due("R of FEET " + f, x.feet(f, 1), 20 + f);
            }
            at.due("FEET " + feet, x.feet(feet, 0), BAD);
        }
        fault(four + "f14,24;f15,25;", 45);
        fault(four + "f14,24;k1;f15,25;", 48);
    }

    private static void aLogHasTwoNumbers() {
        at.of("gN,B a LOG is N");
        notSo("g9;");
        so(CLOG + "g9,9;");
        notSo("g9,9,9;");
    }

    private static void lengthsOfLogs() {
        at.of("a LOG is N (1 to 40) long");
        for (int length : new int[] {1, 2, 3, 38, 39, 40}) {
            LeftAndRight x = so(CLOG + "g" + length + ",2;");
            at.due("BLOCKS of N " + length, x.sawn(-1), length / 2);
            String knots = "k" + (length - 1) + ";" + (length < 40 ? "k" + length + ";" : "");
            at.due("KNOTS in N " + length, so(CLOG + "g" + length + ",2;" + knots).count(3), 1);
        }
        for (int length : new int[] {0, 41, 42, 99}) {
            notSo("g" + length + ",2;");
        }
    }

    private static void lengthsOfBlocks() {
        at.of("a BLOCK B (2 to 9)");
        for (int block : new int[] {2, 3, 8, 9}) {
            LeftAndRight x = so(CLOG + "g40," + block + ";");
            at.due("BLOCKS of B " + block, x.sawn(-1), 40 / block);
            at.due("where the next begins", x.sawn(1), block);
        }
        for (int block : new int[] {0, 1, 10, 11, 99}) {
            notSo("g40," + block + ";");
        }
    }

    private static void logWithoutAnItem() {
        at.of("(20, 4 without; of several the last one counts)");
        LeftAndRight x = so(CLOG + "k19;k20;k39;");
        at.due("KNOTS in 20 pieces", x.count(3), 1);
        at.due("BLOCKS", x.sawn(-1), 4);
        x = so(CLOG);
        int[] begins = {0, 4, 8, 12, 16};
        for (int k = 0; k < begins.length; k++) {
            at.due("where BLOCK " + k + " begins", x.sawn(k), begins[k]);
        }
        at.due("BLOCK 5", x.sawn(5), NONE);
        x = so(CLOG + "g40,9;");
        at.due("BLOCKS with a LOG told", x.sawn(-1), 4);
        Check.write(x, CLOG).lay();
        at.due("BLOCKS of the next TEXT without", x.sawn(-1), 5);
    }

    private static void lastLogCounts() {
        at.of("a BLOCK B (2 to 9) (20, 4 without; of several the last one counts)");
        at.due("one", so(CLOG + "g40,2;").sawn(-1), 20);
        at.due("of two the second", so(CLOG + "g40,2;g9,9;").sawn(-1), 1);
        at.due("of three the third", so(CLOG + "g40,2;g9,9;g30,3;").sawn(-1), 10);
        at.due("KNOTS between count for the last", so(CLOG + "g40,2;k29;k30;g30,3;").count(3), 1);
        notSo("g41,2;g9,9;");
        fault(CLOG + "g9,9;g41,2;", 15);
    }

    private static void aKnotHasOneNumber() {
        at.of("kX there is a KNOT in the LOG's X-th piece");
        notSo("k;");
        so(CLOG + "k1;");
        notSo("k1,1;");
    }

    private static void placesOfKnots() {
        at.of("piece (0 to 39; no matter if told once more, or beyond it)");
        for (int piece : new int[] {0, 1, 38, 39}) {
            LeftAndRight x = so(CLOG + "g40,2;k" + piece + ";");
            at.due("KNOTS with k" + piece, x.count(3), 1);
            at.due("BLOCKS with k" + piece, x.sawn(-1), 19);
            at.due("where the first begins", x.sawn(0), piece == 0 ? 1 : piece == 1 ? 2 : 0);
        }
        for (int piece : new int[] {40, 41, 99}) {
            notSo("k" + piece + ";");
        }
    }

    private static void knotsOnceMoreOrBeyond() {
        at.of("no matter if told once more, or beyond it");
        at.due("KNOTS, one told twice", so(CLOG + "k5;k5;").count(3), 1);
        at.due("KNOTS, one told thrice, another once", so(CLOG + "k5;k5;k6;k05;").count(3), 2);
        at.due("KNOTS in the last piece", so(CLOG + "g9,3;k8;").count(3), 1);
        at.due("BLOCKS with it", so(CLOG + "g9,3;k8;").sawn(-1), 2);
        at.due("KNOTS one piece beyond", so(CLOG + "g9,3;k9;").count(3), 0);
        at.due("BLOCKS with it", so(CLOG + "g9,3;k9;").sawn(-1), 3);
        at.due("KNOTS far beyond, told before the LOG", so(CLOG + "k39;k32;k33;g9,3;").count(3), 0);
        at.due("KNOTS in all of 40", so(CLOG + "g40,2;k0;k31;k32;k39;").count(3), 4);
    }

    private static void aStockingHasOneNumber() {
        at.of("sS a STOCKING takes S");
        notSo("s;");
        so(CLOG + "s1;");
        notSo("s1,1;");
    }

    private static void stockings() {
        at.of("a STOCKING takes S (0 to 6)");
        for (int takes : new int[] {0, 1, 5, 6}) {
            LeftAndRight x = so(CLOG + "s" + takes + ";f" + (30 - takes) + ",30;f" + (31 - takes) + ",30;");
            at.due("S of " + takes, x.count(9), takes);
            at.due("whose(0) with it", x.whose(0), 1);
        }
        for (int takes : new int[] {7, 8, 10, 60, 99}) {
            notSo("s" + takes + ";");
        }
    }

    private static void stockingWithoutAnItem() {
        at.of("S (0 to 6) (2 without;");
        LeftAndRight x = so(CLOG + "f27,30;f28,30;f29,30;");
        at.due("S without", x.count(9), 2);
        at.due("whose(0) without", x.whose(0), 1 + 2);
        Check.write(x, CLOG + "s6;").lay();
        at.due("S told", x.count(9), 6);
        Check.write(x, CLOG).lay();
        at.due("S of the next TEXT without", x.count(9), 2);
    }

    private static void lastStockingCounts() {
        at.of("S (0 to 6) (2 without; of several the last one counts)");
        at.due("one", so(CLOG + "s5;").count(9), 5);
        at.due("of two the second", so(CLOG + "s5;s0;").count(9), 0);
        at.due("of three the third", so(CLOG + "s5;s0;s6;").count(9), 6);
        notSo("s7;s1;");
        fault(CLOG + "s1;s7;", 13);
    }

    private static void firstFault() {
        at.of("FAULT: the place of the first letter of the first ITEM that is not so.");
        so("k1;s1;" + CLOG);
        fault("k40;s1;" + CLOG, 0);
        fault("k1;s7;" + CLOG, 3);
        fault("k1;s1;c0,0,30,41;", 6);
        fault("k1;s1;" + CLOG + "x", 16);
        fault("k1;s7;k40;" + CLOG, 3);
        fault("k1;s1;k40;s7;" + CLOG, 6);
        fault("k01;s1;s7;" + CLOG, 7);
        fault(CLOG + "f30,30;f30,9;f9,30;", 17);
        fault(CLOG + "f30,3x;", 10);
        String long199 = CLOG.repeat(10) + "k00;".repeat(24) + "k00";
        fault(long199, 196);
        fault(long199 + "x", 196);
    }

    private static void laidWithoutFaultAndWithAClog() {
        at.of("LAID is a TEXT without FAULT, of a CLOG at least (NO else;");
        at.refused(LeftAndRight::new, "lay() of no TEXT", LeftAndRight::lay, NO);
        for (String text : new String[] {"f30,30;", "g9,3;", "k1;", "s1;", "s1;k1;g9,3;f30,30;"}) {
            at.due("fault() of " + text, written(text).fault(), NONE);
            at.refused(() -> written(text), "lay() of " + text, LeftAndRight::lay, NO);
        }
        so(CLOG);
        so("f30,30;" + CLOG);
        so("c2,1,12,1;");
        fault(CLOG + "c", 10);
        fault("c0,0,30,5", 0);
    }

    private static void laidAtFirst() {
        at.of("at first c0,0,40,10;c1,0,48,14;c0,1,41,11;c2,1,44,9;c3,1,44,12;c1,1,36,13;c0,0,33,8;f38,39;f42,40;g23,5;k7;k14;s2;)");
        String first = "c0,0,40,10;c1,0,48,14;c0,1,41,11;c2,1,44,9;c3,1,44,12;c1,1,36,13;c0,0,33,8;f38,39;f42,40;g23,5;k7;k14;s2;";
        LeftAndRight laid = Check.laid(first);
        laid.wipe();
        at.isSo("a new object is as one with that laid", Asked.all(new LeftAndRight()).equals(Asked.all(laid)));
        int[][] clogs = {{0, 0, 40, 10, 0}, {1, 0, 48, 14, 0}, {0, 1, 41, 11, 0}, {2, 1, 44, 9, 0}, {3, 1, 44, 14, 0},
            {1, 1, 36, 13, 0}, {0, 0, 33, 8, 0}};
        LeftAndRight x = new LeftAndRight();
        for (int i = 0; i < clogs.length; i++) {
            for (int what = 0; what < 5; what++) {
                at.due("clog(" + i + ", " + what + ")", x.clog(i, what), clogs[i][what]);
            }
        }
        at.due("clog(7, 0)", x.clog(7, 0), BAD);
        at.due("feet(0, 0)", x.feet(0, 0), 38);
        at.due("feet(0, 1)", x.feet(0, 1), 39);
        at.due("feet(1, 0)", x.feet(1, 0), 42);
        at.due("feet(1, 1)", x.feet(1, 1), 40);
        at.due("feet(2, 0)", x.feet(2, 0), BAD);
        at.due("KNOTS", x.count(3), 2);
        at.due("S", x.count(9), 2);
        at.due("BLOCKS", x.sawn(-1), 3);
        at.due("where the last begins", x.sawn(2), 15);
    }

    private static void aNewObjectsText() {
        at.of("As told; THE TEXT is empty.");
        LeftAndRight x = new LeftAndRight();
        at.due("count(8)", x.count(8), 0);
        at.due("wipe()", x.wipe(), 0);
        at.due("fault()", x.fault(), NONE);
        at.due("lay()", x.lay(), NO);
        at.due("the DAY", x.count(2), 0);
        at.due("HEARD", x.count(5), 0);
        at.due("that can be UNDONE", x.count(6), 0);
        at.due("KEPT", x.count(7), 0);
        at.due("write()", x.write('c'), 1);
        at.refused(LeftAndRight::new, "undo()", LeftAndRight::undo, NO);
        at.refused(LeftAndRight::new, "back()", LeftAndRight::back, NO);
    }

    private static void lettersToWrite() {
        at.of("A letter (32 to 126, as in ASCII) comes behind THE TEXT: how long it is. BAD; FULL.");
        Supplier<LeftAndRight> led = () -> written(CLOG + "k");
        at.ends(led, "write()", LeftAndRight::write, 32, 126);
        at.due("write(32)", led.get().write(32), 12);
        at.due("write(126)", led.get().write(126), 12);
        at.due("write(32), the first one", new LeftAndRight().write(32), 1);
        Supplier<LeftAndRight> before = () -> written("k1;".repeat(66) + "k");
        at.due("write(), the last one that fits", before.get().write('1'), 200);
        Supplier<LeftAndRight> full = () -> written("k1;".repeat(66) + "k1");
        at.refused(full, "write(';') when FULL", x -> x.write(';'), FULL);
        at.refused(full, "write(32) when FULL", x -> x.write(32), FULL);
        at.refused(full, "write(126) when FULL", x -> x.write(126), FULL);
        at.refused(full, "write(31) when FULL", x -> x.write(31), BAD);
        at.refused(full, "write(127) when FULL", x -> x.write(127), BAD);
        LeftAndRight x = full.get();
        x.wipe();
        at.due("write() behind wipe()", x.write(';'), 1);
    }

    private static void wipe() {
        at.of("THE TEXT is empty: how long it was.");
        LeftAndRight x = new LeftAndRight();
        at.due("wipe() of none", x.wipe(), 0);
        x.write('z');
        at.due("fault() of one letter", x.fault(), 0);
        at.due("wipe() of one", x.wipe(), 1);
        at.due("fault() then", x.fault(), NONE);
        at.due("count(8) then", x.count(8), 0);
        at.due("wipe() once more", x.wipe(), 0);
        at.due("wipe() of 199", written("z".repeat(199)).wipe(), 199);
        at.due("wipe() of 200", written("z".repeat(200)).wipe(), 200);
        x = written(CLOG + "f30,30;");
        x.lay();
        x.pass(3);
        x.heard(0, 3, 1);
        x.keep();
        x.wipe();
        at.due("CLOGS stay", x.count(0), 1);
        at.due("FEET stay", x.count(1), 1);
        at.due("the DAY stays", x.count(2), 3);
        at.due("what is HEARD stays", x.count(5), 1);
        at.due("what can be UNDONE stays", x.count(6), 1);
        at.due("what is KEPT stays", x.count(7), 1);
    }

    private static void faultOfNone() {
        at.of("FAULT. NONE.");
        at.due("fault() of no letter", new LeftAndRight().fault(), NONE);
        at.due("fault() of one letter", written("k").fault(), 0);
        at.due("fault() of an item but its last letter", written("k1").fault(), 0);
        at.due("fault() of an item", written("k1;").fault(), NONE);
        at.due("fault() of an item and one letter", written("k1;k").fault(), 3);
        LeftAndRight x = written("k1;k");
        at.due("fault()", x.fault(), 3);
        at.due("fault() once more", x.fault(), 3);
        at.due("count(8) then", x.count(8), 4);
    }

    private static void lay() {
        at.of("LAID: how many CLOGS; DAY 0, nothing HEARD, UNDONE, KEPT (THE TEXT stays). NO.");
        LeftAndRight x = written(CLOG + "c0,1,30,5;k1;");
        x.pass(60);
        x.go(0, 2);
        x.hole(0);
        for (int i = 0; i < 8; i++) {
            x.heard(i, 5, 1);
        }
        x.keep();
        x.keep();
        at.due("lay()", x.lay(), 2);
        int[] counts = {2, 0, 0, 1, 0, 0, 0, 0, 23, 2};
        for (int what = 0; what < counts.length; what++) {
            at.due("count(" + what + ")", x.count(what), counts[what]);
        }
        at.due("thick(0)", x.thick(0), 1022);
        at.due("undo()", x.undo(), NO);
        at.due("back()", x.back(), NO);
        x.pass(1);
        at.due("lay() once more", x.lay(), 2);
        at.due("the DAY", x.count(2), 0);
        at.due("heard()", x.heard(0, 5, 1), 1);
        at.due("keep()", x.keep(), 1);
        so(CLOG);
        so(CLOG.repeat(10));
    }

    private static void feet() {
        at.of("Of FEET: L (side = 0), R (1). BAD.");
        Supplier<LeftAndRight> five = () -> Check.laid(CLOG + "f10,20;f11,21;f12,22;f13,23;f14,24;");
        at.ends(five, "feet(f, 0)", (x, f) -> x.feet(f, 0), 0, 4);
        at.ends(five, "feet(f, 1)", (x, f) -> x.feet(f, 1), 0, 4);
        at.ends(five, "feet(0, side)", (x, side) -> x.feet(0, side), 0, 1);
        at.ends(five, "feet(4, side)", (x, side) -> x.feet(4, side), 0, 1);
        at.due("feet(0, 0)", five.get().feet(0, 0), 10);
        at.due("feet(4, 1)", five.get().feet(4, 1), 24);
        at.ends(() -> Check.laid(CLOG + "f10,20;"), "feet(f, 0) of one", (x, f) -> x.feet(f, 0), 0, 0);
        at.beyond(() -> Check.laid(CLOG), "feet(f, 0) of none", (x, f) -> x.feet(f, 0), -1, 0);
    }
}
