/** Long runs of calls, drawn by number so that they are always the same, held against Model. */
public final class ModelTest {
    private static final int RUNS = 1500, CALLS = 512;
    private static final int[] WILD = {Integer.MIN_VALUE, Integer.MIN_VALUE + 1, -1000, -5, -4, -3, -2, -1, 0, 1, 2, 3, 4,
        5, 6, 9, 10, 11, 12, 31, 32, 33, 34, 40, 41, 60, 61, 63, 64, 72, 73, 127, 999, 1000, 9999, 10000, 65536,
        Integer.MAX_VALUE - 60, Integer.MAX_VALUE - 1, Integer.MAX_VALUE};
    private static final Check check = new Check();
    private static long seed = 20261118;
    private static LeftAndRight x;
    private static Model m;
    private static int run;

    public static void main(String[] args) {
        allOfWholeAndTogether();
        for (run = 0; run < RUNS; run++) {
            x = new LeftAndRight();
            m = new Model();
            int calls = run % 4 == 0 ? 0 : writeAndLay(textOf(run % 5 == 0));
            boolean wild = run % 10 == 9;
            while (calls < CALLS / 2) {
                calls += call(wild);
            }
            calls += run % 2 == 0 ? 0 : writeAndLay(textOf(false));
            while (calls < CALLS) {
                calls += call(wild);
            }
        }
        check.end("ModelTest");
    }

    private static void allOfWholeAndTogether() {
        LeftAndRight shelf = new LeftAndRight();
        Model model = new Model();
        for (int n = -1; n <= 5; n++) {
            for (int by = -1; by <= 35; by++) {
                check.due("together(" + n + ", " + by + ")", shelf.together(n, by), model.together(n, by));
                for (int part = -1; part <= 2; part++) {
                    check.due("whole(" + n + ", " + by + ", " + part + ")", shelf.whole(n, by, part), model.whole(n, by, part));
                }
            }
        }
    }

    private static int draw(int below) {
        seed = seed * 6364136223846793005L + 1442695040888963407L;
        return (int) ((seed >>> 33) % below);
    }

    /** From low to high, at times one beside, in a wild run at times anything. */
    private static int number(int low, int high, boolean wild) {
        if (wild && draw(3) == 0) {
            return WILD[draw(WILD.length)];
        }
        if (draw(25) == 0) {
            return draw(2) == 0 ? low - 1 : high + 1;
        }
        return low + draw(high - low + 1);
    }

    private static String item(boolean near, boolean faulty) {
        boolean off = faulty && draw(40) == 0;
        switch (draw(9)) {
            case 0: return "f" + (near ? 26 + draw(6) : 10 + draw(63)) + "," + (near ? 26 + draw(6) : off ? 9 : 10 + draw(63)) + ";";
            case 1: return "g" + (1 + draw(40)) + "," + (off ? draw(12) : 2 + draw(8)) + ";";
            case 2: return "k" + draw(off ? 60 : 40) + ";";
            case 3: return "s" + draw(off ? 9 : 7) + ";";
            default: return "c" + (near ? draw(5) / 4 * (1 + draw(3)) : draw(off ? 5 : 4)) + "," + draw(off ? 3 : 2) + ","
                + (near ? 29 + draw(4) : 12 + draw(61)) + "," + (near ? 5 + draw(5) : off ? 41 : 1 + draw(40)) + ";";
        }
    }

    private static String textOf(boolean faulty) {
        boolean near = draw(3) != 0;
        StringBuilder text = new StringBuilder();
        int items = 3 + draw(faulty ? 30 : 20);
        int clogs = 0;
        int feet = 0;
        for (int i = 0; i < items; i++) {
            String item = item(near, faulty);
            clogs += item.charAt(0) == 'c' ? 1 : 0;
            feet += item.charAt(0) == 'f' ? 1 : 0;
            boolean tooMany = item.charAt(0) == 'c' && clogs > 10 || item.charAt(0) == 'f' && feet > 5;
            if (text.length() + item.length() <= 200 && (faulty || !tooMany)) {
                text.append(item);
            }
        }
        if (faulty && draw(2) == 0 && text.length() > 0) {
            text.setCharAt(draw(text.length()), (char) (32 + draw(95)));
        }
        return text.toString();
    }

    private static void due(String call, int got, int want) {
        check.due("run " + run + ": " + call, got, want);
    }

    private static int writeAndLay(String text) {
        due("wipe()", x.wipe(), m.wipe());
        for (char letter : text.toCharArray()) {
            due("write(" + letter + ")", x.write(letter), m.write(letter));
        }
        due("fault() of " + text, x.fault(), m.fault());
        due("lay() of " + text, x.lay(), m.lay());
        return text.length() + 3;
    }

    private static int call(boolean wild) {
        int what = draw(100);
        if (what < 38) {
            act(wild);
        } else if (what < 70) {
            askPairs(wild);
        } else if (what < 98) {
            askOthers(wild);
        } else if (wild && draw(4) == 0) {
            int letter = number(32, 126, true);
            due("write(" + letter + ")", x.write(letter), m.write(letter));
        } else if (draw(20) == 0) {
            due("lay()", x.lay(), m.lay());
        }
        return 1;
    }

    private static void act(boolean wild) {
        int i = number(0, 9, wild);
        int k = number(0, 9, wild);
        switch (draw(9)) {
            case 0: case 1: {
                int n = draw(3) == 0 ? number(1, 60, wild) : 1 + draw(9);
                due("pass(" + n + ")", x.pass(n), m.pass(n));
                break;
            }
            case 2: case 3: {
                int kind = number(0, 3, wild);
                int side = number(0, 1, wild);
                int size = draw(2) == 0 ? 29 + draw(4) : number(12, 72, wild);
                int weight = draw(2) == 0 ? 5 + draw(5) : number(1, 40, wild);
                due("come(" + kind + ", " + side + ", " + size + ", " + weight + ")",
                    x.come(kind, side, size, weight), m.come(kind, side, size, weight));
                break;
            }
            case 4: case 5: due("go(" + i + ", " + k + ")", x.go(i, k), m.go(i, k)); break;
            case 6: due("hole(" + i + ")", x.hole(i), m.hole(i)); break;
            case 7: due("undo()", x.undo(), m.undo()); break;
            default: {
                if (draw(2) == 0) {
                    due("keep()", x.keep(), m.keep());
                } else {
                    due("back()", x.back(), m.back());
                }
            }
        }
    }

    private static void askPairs(boolean wild) {
        int i = number(0, 9, wild);
        int k = number(0, 9, wild);
        int side = number(0, 1, wild);
        switch (draw(9)) {
            case 0: due("mates(" + i + ")", x.mates(i), m.mates(i)); break;
            case 1: due("pairs(" + i + ")", x.pairs(i), m.pairs(i)); break;
            case 2: due("pairs(-1)", x.pairs(-1), m.pairs(-1)); break;
            case 3: due("pairs(-2)", x.pairs(-2), m.pairs(-2)); break;
            case 4: due("leftOver(" + side + ")", x.leftOver(side), m.leftOver(side)); break;
            case 5: due("served()", x.served(), m.served()); break;
            case 6: due("whose(" + i + ")", x.whose(i), m.whose(i)); break;
            case 7: due("alikeBy(" + i + ", " + k + ")", x.alikeBy(i, k), m.alikeBy(i, k)); break;
            default: due("dry(" + i + ", " + side + ")", x.dry(i, side), m.dry(i, side));
        }
    }

    private static void askOthers(boolean wild) {
        int i = number(0, 9, wild);
        int side = number(0, 1, wild);
        switch (draw(9)) {
            case 0: {
                int k = number(-1, 9, wild);
                due("sawn(" + k + ")", x.sawn(k), m.sawn(k));
                break;
            }
            case 1: {
                int k = number(1, 5, wild);
                due("sizes(" + k + ", " + side + ")", x.sizes(k, side), m.sizes(k, side));
                break;
            }
            case 2: {
                int t = number(1, 9, wild);
                due("heard(" + i + ", " + t + ", " + side + ")", x.heard(i, t, side), m.heard(i, t, side));
                break;
            }
            case 3: due("thick(" + i + ")", x.thick(i), m.thick(i)); break;
            case 4: {
                int z = number(0, 9999, wild);
                int n = number(1, 60, wild);
                due("year(" + z + ", " + n + ", " + side + ")", x.year(z, n, side), m.year(z, n, side));
                break;
            }
            case 5: {
                int what = number(0, 4, wild);
                due("clog(" + i + ", " + what + ")", x.clog(i, what), m.clog(i, what));
                break;
            }
            case 6: {
                int f = number(0, 4, wild);
                due("feet(" + f + ", " + side + ")", x.feet(f, side), m.feet(f, side));
                break;
            }
            case 7: {
                int what = number(0, 9, wild);
                due("count(" + what + ")", x.count(what), m.count(what));
                break;
            }
            default:
                if (draw(4) == 0) {
                    due("forget()", x.forget(), m.forget());
                } else {
                    due("fault()", x.fault(), m.fault());
                }
        }
    }
}
