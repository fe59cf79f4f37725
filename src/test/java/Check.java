/** What the tests share: counting wrong answers, and writing a text letter by letter. */
final class Check {
    private static final int MOST_PRINTED = 40;
    private int wrong;
    private int asked;

    void due(String call, long got, long want) {
        asked++;
        if (got != want) {
            wrong++;
            if (wrong <= MOST_PRINTED) {
                System.out.println(call + " answered " + got + ", due is " + want);
            }
        }
    }

    void isSo(String what, boolean so) {
        due(what, so ? 1 : 0, 1);
    }

    static LeftAndRight write(LeftAndRight shelf, String text) {
        shelf.wipe();
        for (char letter : text.toCharArray()) {
            shelf.write(letter);
        }
        return shelf;
    }

    /** A new object with a text laid; it must be one that can be. */
    static LeftAndRight laid(String text) {
        LeftAndRight shelf = write(new LeftAndRight(), text);
        if (shelf.lay() < 0) {
            throw new IllegalStateException("not laid: " + text);
        }
        return shelf;
    }

    /** So many days on, in calls of 60 at most. */
    static LeftAndRight passed(LeftAndRight shelf, int days) {
        for (int left = days; left > 0; left -= 60) {
            shelf.pass(Math.min(60, left));
        }
        return shelf;
    }

    static LeftAndRight onDay(String text, int day) {
        return passed(laid(text), day);
    }

    void end(String test) {
        System.out.println(test + ": " + asked + " answers, " + wrong + " of them not as due");
        if (wrong != 0) {
            System.exit(1);
        }
    }
}
