import java.util.ArrayList;
import java.util.List;

/** What an object shows of its state, call by call, so that a refused call can be seen to change nothing. */
final class Asked {
    private static final int NONE = -4;
    private final List<String> answers = new ArrayList<>();
    private final LeftAndRight x;

    private Asked(LeftAndRight x) {
        this.x = x;
    }

    /** By calls that only ask; some two hundred, so that an object led here by as many stays under its 512. */
    static List<String> all(LeftAndRight x) {
        Asked asked = new Asked(x);
        asked.counts();
        for (int i = 0; i < x.count(0); i++) {
            asked.clog(i);
        }
        asked.wholeShelf();
        asked.log();
        asked.walls();
        return asked.answers;
    }

    /** What can be undone, step by step; it is undone by that. */
    static List<String> undone(LeftAndRight x) {
        Asked asked = new Asked(x);
        for (int step = 0; step < 9; step++) {
            asked.put("undo()", x.undo());
            asked.shelf();
        }
        return asked.answers;
    }

    /** What is kept, step by step, and what THE TEXT lays; all that is lost by that. */
    static List<String> keptAndWritten(LeftAndRight x) {
        Asked asked = new Asked(x);
        for (int step = 0; step < 3; step++) {
            asked.put("back()", x.back());
            asked.shelf();
        }
        asked.put("lay()", x.lay());
        asked.answers.addAll(all(x));
        return asked.answers;
    }

    private void put(String call, int answer) {
        answers.add(call + " = " + answer);
    }

    private void counts() {
        for (int what = 0; what <= 9; what++) {
            put("count(" + what + ")", x.count(what));
        }
        put("fault()", x.fault());
        for (int f = 0; f < x.count(1); f++) {
            put("feet(" + f + ", 0)", x.feet(f, 0));
            put("feet(" + f + ", 1)", x.feet(f, 1));
        }
    }

    private void clog(int i) {
        for (int what = 0; what <= 4; what++) {
            put("clog(" + i + ", " + what + ")", x.clog(i, what));
        }
        put("mates(" + i + ")", x.mates(i));
        put("pairs(" + i + ")", x.pairs(i));
        put("whose(" + i + ")", x.whose(i));
        put("dry(" + i + ", 0)", x.dry(i, 0));
        put("dry(" + i + ", 1)", x.dry(i, 1));
    }

    private void wholeShelf() {
        put("pairs(-1)", x.pairs(-1));
        put("pairs(-2)", x.pairs(-2));
        put("leftOver(0)", x.leftOver(0));
        put("leftOver(1)", x.leftOver(1));
        put("served()", x.served());
        put("alikeBy(0, 1)", x.alikeBy(0, 1));
        put("year(3, 9, 0)", x.year(3, 9, 0));
        put("year(3, 9, 1)", x.year(3, 9, 1));
        for (int k = 1; k <= 5; k++) {
            put("sizes(" + k + ", 0)", x.sizes(k, 0));
            put("sizes(" + k + ", 1)", x.sizes(k, 1));
        }
    }

    private void log() {
        int answer = 0;
        for (int k = -1; answer != NONE; k++) {
            answer = x.sawn(k);
            put("sawn(" + k + ")", answer);
        }
    }

    private void walls() {
        for (int i = 0; i <= 9; i++) {
            put("thick(" + i + ")", x.thick(i));
        }
    }

    /** The shelf in few calls. */
    private void shelf() {
        put("count(2)", x.count(2));
        int clogs = x.count(0);
        for (int i = 0; i < clogs; i++) {
            put("clog(" + i + ", 0)", x.clog(i, 0));
            put("clog(" + i + ", 2)", x.clog(i, 2));
            put("clog(" + i + ", 4)", x.clog(i, 4));
        }
    }
}
