import java.util.Arrays;

/** Clogs on a shelf, the feet that wait for them and the log they are sawn from; see README.md. */
public final class LeftAndRight {
    public static final int BAD = -1, NO = -2, FULL = -3, NONE = -4;

    private static final String FIRST_TEXT = "c0,0,40,10;c1,0,48,14;c0,1,41,11;c2,1,44,9;c3,1,44,12;c1,1,36,13;c0,0,33,8;f38,39;f42,40;g23,5;k7;k14;s2;";

    private static final int LEFT = 0, RIGHT = 1;
    private static final int DRY = 0, GREEN = 1, HOLED = 2, BUTT = 3;
    private static final int KIND = 0, SIDE = 1, SIZE = 2, WEIGHT = 3, CAME = 4, CELLS = 5;

    private static final int MOST_CLOGS = 10, MOST_FEET = 5, MOST_LETTERS = 200, MOST_NUMBERS = 4;
    private static final int MOST_UNDONE = 8, MOST_KEPT = 2, MOST_HEARD = 8;
    private static final int SMALLEST_CLOG = 12, LARGEST_CLOG = 72, HEAVIEST_CLOG = 40, SMALLEST_FOOT = 10;
    private static final int LONGEST_LOG = 40, SMALLEST_BLOCK = 2, LARGEST_BLOCK = 9, LARGEST_STOCKING = 6;
    private static final int LAST_DAY = 999, MOST_DAYS = 60, DRYING_DAYS = 30;
    private static final int THICKEST = 9, MOST_SIZES = 5, LAST_YEAR = 9999;

    private final Text text = new Text();
    private final Reader reader = new Reader();
    private final Shelf shelf = new Shelf();
    private final Waiting waiting = new Waiting();
    private final Log log = new Log();
    private final Walls walls = new Walls();
    private final Pile acts = new Pile(MOST_UNDONE);
    private final Pile kept = new Pile(MOST_KEPT);
    private final Pairing pairing = new Pairing();
    private final Year draws = new Year();

    public LeftAndRight() {
        for (int place = 0; place < FIRST_TEXT.length(); place++) {
            text.append(FIRST_TEXT.charAt(place));
        }
        layText();
        text.clear();
    }

    // ---- shelves

    public int write(int letter) {
        if (!within(letter, 32, 126)) {
            return BAD;
        }
        if (text.length >= MOST_LETTERS) {
            return FULL;
        }
        text.append(letter);
        return text.length;
    }

    public int wipe() {
        int length = text.length;
        text.clear();
        return length;
    }

    public int fault() {
        return reader.read(text);
    }

    public int lay() {
        return layText() ? shelf.clogs : NO;
    }

    public int clog(int i, int what) {
        if (!shelf.holds(i) || !within(what, KIND, CAME)) {
            return BAD;
        }
        if (what == SIZE) {
            return shelf.sizeOn(i, shelf.day);
        }
        if (what == WEIGHT) {
            return shelf.weightOn(i, shelf.day);
        }
        return shelf.cell(i, what);
    }

    public int feet(int f, int side) {
        if (!within(f, 0, waiting.number - 1) || !isSide(side)) {
            return BAD;
        }
        return waiting.foot(f, side);
    }

    // ---- acts

    public int pass(int n) {
        if (!within(n, 1, MOST_DAYS)) {
            return BAD;
        }
        if (shelf.day + n > LAST_DAY) {
            return NO;
        }
        acts.push(shelf);
        shelf.day += n;
        return shelf.day;
    }

    public int come(int kind, int side, int size, int weight) {
        if (!isClog(kind, side, size, weight)) {
            return BAD;
        }
        if (shelf.clogs >= MOST_CLOGS) {
            return FULL;
        }
        acts.push(shelf);
        shelf.add(kind, side, size, weight);
        return shelf.clogs - 1;
    }

    public int go(int left, int right) {
        if (!shelf.holds(left) || !shelf.holds(right)) {
            return BAD;
        }
        if (!shelf.areAlikeOn(left, right, shelf.day)) {
            return NO;
        }
        acts.push(shelf);
        shelf.removeTwo(left, right);
        return shelf.clogs;
    }

    public int hole(int i) {
        if (!shelf.holds(i)) {
            return BAD;
        }
        int kind = shelf.cell(i, KIND);
        if (kind == HOLED) {
            return NO;
        }
        acts.push(shelf);
        shelf.pierce(i);
        return kind;
    }

    public int undo() {
        if (!acts.popInto(shelf)) {
            return NO;
        }
        return acts.height;
    }

    // ---- pairs

    public int mates(int i) {
        if (!shelf.holds(i)) {
            return BAD;
        }
        return shelf.matesOf(i);
    }

    public int pairs(int k) {
        if (!within(k, -2, shelf.clogs - 1)) {
            return BAD;
        }
        pairing.look(shelf);
        pairing.match();
        if (k == -1) {
            return pairing.number;
        }
        if (k == -2) {
            return pairing.apart;
        }
        return pairing.partnerOf(k);
    }

    public int leftOver(int side) {
        if (!isSide(side)) {
            return BAD;
        }
        pairing.look(shelf);
        pairing.match();
        return Integer.bitCount(shelf.ofSide(side)) - pairing.number;
    }

    public int served() {
        pairing.look(shelf);
        return pairing.serve(waiting);
    }

    public int whose(int i) {
        if (!shelf.holds(i)) {
            return BAD;
        }
        int bits = 0;
        for (int f = 0; f < waiting.number; f++) {
            if (waiting.suits(f, shelf.cell(i, SIDE), shelf.sizeOn(i, shelf.day))) {
                bits |= 1 << f;
            }
        }
        return bits;
    }

    public int alikeBy(int left, int right) {
        if (!shelf.isOfSide(left, LEFT) || !shelf.isOfSide(right, RIGHT)) {
            return BAD;
        }
        for (int days = 0; days <= MOST_DAYS; days++) {
            if (shelf.areAlikeOn(left, right, shelf.day + days)) {
                return days;
            }
        }
        return NONE;
    }

    public int dry(int i, int what) {
        if (!shelf.holds(i) || !within(what, 0, 1)) {
            return BAD;
        }
        // Nothing dries beyond DRYING_DAYS, so the size behind them is the smallest.
        int smallest = shelf.sizeOn(i, shelf.day + DRYING_DAYS);
        if (what == 1) {
            return smallest;
        }
        int days = 0;
        while (days < DRYING_DAYS && shelf.sizeOn(i, shelf.day + days) != smallest) {
            days++;
        }
        return days;
    }

    // ---- the log

    public int sawn(int k) {
        if (k < -1) {
            return BAD;
        }
        return log.saw(k);
    }

    public int sizes(int k, int what) {
        if (!within(k, 1, MOST_SIZES) || !within(what, 0, 1)) {
            return BAD;
        }
        int most = -1;
        int lowest = 0;
        for (int from = 1; from <= LARGEST_CLOG; from++) {
            int wholeOnes = shelf.unholedFrom(from, k);
            if (wholeOnes > most) {
                most = wholeOnes;
                lowest = from;
            }
        }
        return what == 0 ? lowest : most;
    }

    // ---- walls

    public int heard(int i, int t, int clear) {
        if (!within(i, 0, MOST_CLOGS - 1) || !within(t, 1, THICKEST) || !within(clear, 0, 1)) {
            return BAD;
        }
        if (walls.sounds >= MOST_HEARD) {
            return FULL;
        }
        walls.add(i, t, clear);
        return walls.sounds;
    }

    public int forget() {
        int sounds = walls.sounds;
        walls.sounds = 0;
        return sounds;
    }

    public int thick(int i) {
        if (!within(i, 0, MOST_CLOGS - 1)) {
            return BAD;
        }
        return walls.thicknesses(i);
    }

    public int whole(int n, int x, int part) {
        if (!within(n, 0, 4) || !within(x, 0, 10) || !within(part, 0, 1)) {
            return BAD;
        }
        // A power of a fraction in lowest terms is in lowest terms itself.
        int shared = Math.max(1, commonDivisorWithTen(10 - x));
        int base = part == 0 ? (10 - x) / shared : 10 / shared;
        return (int) power(base, 2 * n);
    }

    public int together(int n, int x) {
        if (!within(n, 0, 3) || !within(x, 0, 33)) {
            return BAD;
        }
        if (n == 0) {
            return 100000;
        }
        long more = cutsInTheMean(n, x, true) - cutsInTheMean(n, x, false);
        long below = Math.max(1L, power(100, 2 * n - 1));
        return (int) (10000L * more / below) + 100000;
    }

    public int year(int z, int n, int what) {
        if (!within(z, 0, LAST_YEAR) || !within(n, 1, MOST_DAYS) || !within(what, 0, 1)) {
            return BAD;
        }
        draws.live(shelf, z, n);
        return what == 0 ? draws.wentAsPairs : draws.shelf.clogs;
    }

    // ---- kept

    public int keep() {
        if (kept.isFull()) {
            return FULL;
        }
        kept.push(shelf);
        return kept.height;
    }

    public int back() {
        if (!kept.popInto(shelf)) {
            return NO;
        }
        acts.clear();
        return kept.height;
    }

    public int count(int what) {
        switch (what) {
            case 0: return shelf.clogs;
            case 1: return waiting.number;
            case 2: return shelf.day;
            case 3: return log.knotsInside();
            case 4: return shelf.holedOnes();
            case 5: return walls.sounds;
            case 6: return acts.height;
            case 7: return kept.height;
            case 8: return text.length;
            case 9: return waiting.stocking;
            default: return BAD;
        }
    }

    // ---- what the calls share

    private boolean layText() {
        if (reader.read(text) != NONE || reader.shelf.clogs == 0) {
            return false;
        }
        shelf.copy(reader.shelf);
        waiting.copy(reader.waiting);
        log.copy(reader.log);
        walls.sounds = 0;
        acts.clear();
        kept.clear();
        return true;
    }

    private static boolean within(int number, int low, int high) {
        return number >= low && number <= high;
    }

    private static boolean isSide(int side) {
        return side == LEFT || side == RIGHT;
    }

    private static boolean isClog(int kind, int side, int size, int weight) {
        return within(kind, DRY, BUTT) && isSide(side)
            && within(size, SMALLEST_CLOG, LARGEST_CLOG) && within(weight, 1, HEAVIEST_CLOG);
    }

    private static int at(int[] row, int index) {
        return row == null || index < 0 || index >= row.length ? 0 : row[index];
    }

    private static void put(int[] row, int index, int number) {
        if (row != null && index >= 0 && index < row.length) {
            row[index] = number;
        }
    }

    private static void copyRow(int[] from, int[] to) {
        if (from != null && to != null) {
            System.arraycopy(from, 0, to, 0, Math.min(from.length, to.length));
        }
    }

    private static boolean hasBit(int bits, int i) {
        return i >= 0 && i < 31 && (bits >> i & 1) != 0;
    }

    private static long power(int base, int times) {
        long product = 1;
        for (int i = 0; i < times; i++) {
            product *= base;
        }
        return product;
    }

    private static int commonDivisorWithTen(int number) {
        for (int divisor = 10; divisor > 1; divisor--) {
            if (number % divisor == 0 && 10 % divisor == 0) {
                return divisor;
            }
        }
        return 1;
    }

    /** How many cuts in the mean, times 100 to the power of (2 n less 1): a cut is made if all before it missed. */
    private static long cutsInTheMean(int n, int x, boolean cutByCut) {
        long sum = 0;
        long stillWhole = 1;
        for (int cut = 0; cut < 2 * n; cut++) {
            sum = sum * 100 + stillWhole;
            int cutOfOne = cutByCut ? cut / 2 + 1 : (cut < n ? cut : cut - n) + 1;
            stillWhole *= 100 - cutOfOne * x;
        }
        return sum;
    }

    /** THE TEXT. */
    private static final class Text {
        final char[] letters = new char[MOST_LETTERS];
        int length;

        void append(int letter) {
            if (length >= 0 && length < letters.length) {
                letters[length] = (char) letter;
                length++;
            }
        }

        void clear() {
            length = 0;
        }

        /** The letter at a place; 0, which no text holds, where there is none. */
        int letterAt(int place) {
            return place < 0 || place >= length || place >= letters.length ? 0 : letters[place];
        }

        /** The figure at a place, or -1. */
        int figureAt(int place) {
            int letter = letterAt(place);
            return letter >= '0' && letter <= '9' ? letter - '0' : -1;
        }
    }

    /** Reads a text into a shelf, feet and a log of its own, so that a fault leaves the laid ones alone. */
    private static final class Reader {
        final Shelf shelf = new Shelf();
        final Waiting waiting = new Waiting();
        final Log log = new Log();
        final int[] numbers = new int[MOST_NUMBERS];
        int told;

        /** The place of the first item that is not so, or NONE. */
        int read(Text text) {
            shelf.clear();
            waiting.clear();
            log.clear();
            if (text == null) {
                return NONE;
            }
            int place = 0;
            for (int items = 0; items < MOST_LETTERS && place < text.length; items++) {
                int behind = readNumbers(text, place + 1);
                if (behind < 0 || !take(text.letterAt(place))) {
                    return place;
                }
                place = behind;
            }
            return NONE;
        }

        /** Reads an item's numbers from a place on: the place behind its semicolon, or -1. */
        private int readNumbers(Text text, int from) {
            int place = from;
            for (int i = 0; i < MOST_NUMBERS; i++) {
                int number = text.figureAt(place);
                if (number < 0) {
                    return -1;
                }
                place++;
                int second = text.figureAt(place);
                if (second >= 0) {
                    number = number * 10 + second;
                    place++;
                }
                put(numbers, i, number);
                told = i + 1;
                int letter = text.letterAt(place);
                place++;
                if (letter == ';') {
                    return place;
                }
                if (letter != ',') {
                    return -1;
                }
            }
            return -1;
        }

        private boolean take(int letter) {
            switch (letter) {
                case 'c': return takeClog();
                case 'f': return takeFeet();
                case 'g': return takeLog();
                case 'k': return takeKnot();
                case 's': return takeStocking();
                default: return false;
            }
        }

        private boolean takeClog() {
            if (told != 4 || shelf.clogs >= MOST_CLOGS
                || !isClog(at(numbers, 0), at(numbers, 1), at(numbers, 2), at(numbers, 3))) {
                return false;
            }
            shelf.add(at(numbers, 0), at(numbers, 1), at(numbers, 2), at(numbers, 3));
            return true;
        }

        private boolean takeFeet() {
            if (told != 2 || waiting.number >= MOST_FEET
                || !within(at(numbers, 0), SMALLEST_FOOT, LARGEST_CLOG)
                || !within(at(numbers, 1), SMALLEST_FOOT, LARGEST_CLOG)) {
                return false;
            }
            waiting.add(at(numbers, 0), at(numbers, 1));
            return true;
        }

        private boolean takeLog() {
            if (told != 2 || !within(at(numbers, 0), 1, LONGEST_LOG)
                || !within(at(numbers, 1), SMALLEST_BLOCK, LARGEST_BLOCK)) {
                return false;
            }
            log.length = at(numbers, 0);
            log.block = at(numbers, 1);
            return true;
        }

        private boolean takeKnot() {
            if (told != 1 || !within(at(numbers, 0), 0, LONGEST_LOG - 1)) {
                return false;
            }
            log.knots |= 1L << at(numbers, 0);
            return true;
        }

        private boolean takeStocking() {
            if (told != 1 || !within(at(numbers, 0), 0, LARGEST_STOCKING)) {
                return false;
            }
            waiting.stocking = at(numbers, 0);
            return true;
        }
    }

    /** The clogs and the day: what acts change, what is undone and kept. */
    private static final class Shelf {
        final int[] cells = new int[MOST_CLOGS * CELLS];
        int clogs;
        int day;

        void clear() {
            clogs = 0;
            day = 0;
        }

        void copy(Shelf from) {
            if (from != null) {
                copyRow(from.cells, cells);
                clogs = from.clogs;
                day = from.day;
            }
        }

        boolean holds(int i) {
            return within(i, 0, clogs - 1);
        }

        int cell(int i, int what) {
            if (i < 0 || i >= clogs || what < 0 || what >= CELLS) {
                return 0;
            }
            int place = i * CELLS + what;
            return place < cells.length ? cells[place] : 0;
        }

        void pierce(int i) {
            if (holds(i)) {
                put(cells, i * CELLS + KIND, HOLED);
            }
        }

        boolean isOfSide(int i, int side) {
            return holds(i) && cell(i, SIDE) == side;
        }

        /** Which clogs are of a side, as bits. */
        int ofSide(int side) {
            int bits = 0;
            for (int i = 0; i < clogs; i++) {
                if (isOfSide(i, side)) {
                    bits |= 1 << i;
                }
            }
            return bits;
        }

        int holedOnes() {
            int holed = 0;
            for (int i = 0; i < clogs; i++) {
                if (cell(i, KIND) == HOLED) {
                    holed++;
                }
            }
            return holed;
        }

        void add(int kind, int side, int size, int weight) {
            if (clogs < MOST_CLOGS) {
                int row = clogs * CELLS;
                put(cells, row + KIND, kind);
                put(cells, row + SIDE, side);
                put(cells, row + SIZE, size);
                put(cells, row + WEIGHT, weight);
                put(cells, row + CAME, day);
                clogs++;
            }
        }

        /** The higher one goes first, so that the lower one's number still holds. */
        void removeTwo(int one, int other) {
            removeOne(Math.max(one, other));
            removeOne(Math.min(one, other));
        }

        private void removeOne(int i) {
            if (holds(i)) {
                for (int to = i * CELLS; to < (clogs - 1) * CELLS; to++) {
                    put(cells, to, at(cells, to + CELLS));
                }
                clogs--;
            }
        }

        private int driedBy(int i, int onDay) {
            return cell(i, KIND) == GREEN ? Math.min(DRYING_DAYS, Math.max(0, onDay - cell(i, CAME))) : 0;
        }

        int sizeOn(int i, int onDay) {
            int size = cell(i, SIZE);
            return size - size * driedBy(i, onDay) / 360;
        }

        int weightOn(int i, int onDay) {
            int weight = cell(i, WEIGHT);
            int butt = cell(i, KIND) == BUTT ? 2 : 0;
            return weight - weight * driedBy(i, onDay) / 90 + butt;
        }

        boolean areAlikeOn(int left, int right, int onDay) {
            return isOfSide(left, LEFT) && isOfSide(right, RIGHT)
                && cell(left, KIND) != HOLED && cell(right, KIND) != HOLED
                && Math.abs(sizeOn(left, onDay) - sizeOn(right, onDay)) <= 1
                && Math.abs(weightOn(left, onDay) - weightOn(right, onDay)) <= 3;
        }

        /** Which ones are alike to one of either side, as bits. */
        int matesOf(int i) {
            int bits = 0;
            for (int other = 0; other < clogs; other++) {
                if (areAlikeOn(i, other, day) || areAlikeOn(other, i, day)) {
                    bits |= 1 << other;
                }
            }
            return bits;
        }

        /** How many that are not holed are of one of k sizes. */
        int unholedFrom(int from, int k) {
            int unholed = 0;
            for (int i = 0; i < clogs; i++) {
                if (cell(i, KIND) != HOLED && within(sizeOn(i, day), from, from + k - 1)) {
                    unholed++;
                }
            }
            return unholed;
        }
    }

    /** The feet that wait, and what a stocking takes. */
    private static final class Waiting {
        private static final int ROOM = 4;
        final int[] lefts = new int[MOST_FEET];
        final int[] rights = new int[MOST_FEET];
        int number;
        int stocking;

        void clear() {
            number = 0;
            stocking = 2;
        }

        void copy(Waiting from) {
            if (from != null) {
                copyRow(from.lefts, lefts);
                copyRow(from.rights, rights);
                number = from.number;
                stocking = from.stocking;
            }
        }

        void add(int left, int right) {
            if (number < MOST_FEET) {
                put(lefts, number, left);
                put(rights, number, right);
                number++;
            }
        }

        int foot(int f, int side) {
            return at(side == LEFT ? lefts : rights, f);
        }

        /** Whether a clog of a side is large enough for the foot in its stocking, and not too large. */
        boolean suits(int f, int side, int size) {
            int smallest = foot(f, side) + stocking;
            return within(size, smallest, smallest + ROOM);
        }
    }

    /** The log with its knots, one bit a piece. */
    private static final class Log {
        int length;
        int block;
        long knots;

        void clear() {
            length = 20;
            block = 4;
            knots = 0;
        }

        void copy(Log from) {
            if (from != null) {
                length = from.length;
                block = from.block;
                knots = from.knots;
            }
        }

        int knotsInside() {
            return Long.bitCount(knots & (1L << length) - 1);
        }

        private boolean isBlock(int from) {
            long pieces = (1L << block) - 1 << from;
            return from + block <= length && (knots & pieces) == 0;
        }

        /**
         * Where the k-th block begins, or NONE; for k = -1 how many there are. To take each block as
         * early as it can be gives most of them, and each one begins as low as it can.
         */
        int saw(int k) {
            int blocks = 0;
            int free = 0;
            for (int piece = 0; piece < length; piece++) {
                if (piece >= free && isBlock(piece)) {
                    if (blocks == k) {
                        return piece;
                    }
                    blocks++;
                    free = piece + block;
                }
            }
            return k == -1 ? blocks : NONE;
        }
    }

    /** Shelves one upon the other, of which the lowest falls out when one more than fits is laid on. */
    private static final class Pile {
        final Shelf[] shelves;
        int height;

        Pile(int most) {
            shelves = new Shelf[Math.max(1, most)];
            for (int i = 0; i < shelves.length; i++) {
                shelves[i] = new Shelf();
            }
        }

        boolean isFull() {
            return height >= shelves.length;
        }

        void clear() {
            height = 0;
        }

        void push(Shelf shelf) {
            if (isFull()) {
                dropLowest();
            }
            if (height >= 0 && height < shelves.length && shelves[height] != null) {
                shelves[height].copy(shelf);
                height++;
            }
        }

        boolean popInto(Shelf shelf) {
            if (shelf == null || height <= 0 || height > shelves.length) {
                return false;
            }
            height--;
            shelf.copy(shelves[height]);
            return true;
        }

        private void dropLowest() {
            if (shelves.length > 0) {
                Shelf lowest = shelves[0];
                for (int i = 1; i < shelves.length; i++) {
                    shelves[i - 1] = shelves[i];
                }
                shelves[shelves.length - 1] = lowest;
                height--;
            }
        }
    }

    /** What is heard of walls. */
    private static final class Walls {
        final int[] clogs = new int[MOST_HEARD];
        final int[] limits = new int[MOST_HEARD];
        final int[] clears = new int[MOST_HEARD];
        int sounds;

        void add(int i, int t, int clear) {
            if (sounds < MOST_HEARD) {
                put(clogs, sounds, i);
                put(limits, sounds, t);
                put(clears, sounds, clear);
                sounds++;
            }
        }

        /** How thick a clog's wall can be, as bits. */
        int thicknesses(int i) {
            int bits = 0;
            for (int thickness = 1; thickness <= THICKEST; thickness++) {
                if (agrees(i, thickness)) {
                    bits |= 1 << thickness;
                }
            }
            return bits;
        }

        private boolean agrees(int i, int thickness) {
            for (int sound = 0; sound < sounds; sound++) {
                int clear = thickness <= at(limits, sound) ? 1 : 0;
                if (at(clogs, sound) == i && at(clears, sound) != clear) {
                    return false;
                }
            }
            return true;
        }
    }

    /** Who gets whom, and which feet can be served, on the shelf looked at last; a set of clogs is an index of a row. */
    private static final class Pairing {
        /** More than all pairs together can be apart, so that one pair more outdoes any distance. */
        private static final int PAIR = 1000;
        final int[] sets = new int[1 << MOST_CLOGS];
        final int[] mates = new int[MOST_CLOGS];
        final int[] sizes = new int[MOST_CLOGS];
        final int[] partners = new int[MOST_CLOGS];
        int lefts;
        int clogs;
        int number;
        int apart;

        void look(Shelf shelf) {
            if (shelf == null) {
                return;
            }
            clogs = Math.max(0, Math.min(MOST_CLOGS, shelf.clogs));
            lefts = shelf.ofSide(LEFT);
            for (int i = 0; i < clogs; i++) {
                put(mates, i, shelf.matesOf(i));
                put(sizes, i, shelf.sizeOn(i, shelf.day));
            }
        }

        /** Finds the pairs: how many, how much apart, and each clog's partner. */
        void match() {
            for (int gone = (1 << clogs) - 1; gone >= 0; gone--) {
                put(sets, gone, bestWithout(gone));
            }
            Arrays.fill(partners, NONE);
            number = 0;
            apart = 0;
            int gone = 0;
            for (int left = 0; left < clogs; left++) {
                if (hasBit(lefts, left)) {
                    int right = firstBest(gone, left);
                    gone |= 1 << left;
                    if (right >= 0) {
                        gone |= 1 << right;
                        join(left, right);
                    }
                }
            }
        }

        int partnerOf(int i) {
            return i >= 0 && i < clogs ? at(partners, i) : NONE;
        }

        /** The worth of the best way to pair those that are not gone: sets of more gone ones are known by now. */
        private int bestWithout(int gone) {
            int left = 0;
            while (left < clogs && !hasBit(lefts & ~gone, left)) {
                left++;
            }
            // The left ones go in order: a set without this one but with a later one never comes up.
            if (left >= clogs || (lefts & gone) >> left != 0) {
                return 0;
            }
            int best = at(sets, gone | 1 << left);
            for (int right = 0; right < clogs; right++) {
                if (hasBit(at(mates, left) & ~gone, right)) {
                    best = Math.max(best, worthOf(gone, left, right));
                }
            }
            return best;
        }

        private int worthOf(int gone, int left, int right) {
            return at(sets, gone | 1 << left | 1 << right) + PAIR - distance(left, right);
        }

        private int distance(int one, int other) {
            return Math.abs(at(sizes, one) - at(sizes, other));
        }

        /** The lowest right one with which a left one is in a best way, or NONE. */
        private int firstBest(int gone, int left) {
            for (int right = 0; right < clogs; right++) {
                if (hasBit(at(mates, left) & ~gone, right) && worthOf(gone, left, right) == at(sets, gone)) {
                    return right;
                }
            }
            return NONE;
        }

        private void join(int left, int right) {
            put(partners, left, right);
            put(partners, right, left);
            number++;
            apart += distance(left, right);
        }

        /** How many feet can be served: marks which sets of clogs can be given away, foot by foot. */
        int serve(Waiting waiting) {
            if (waiting == null) {
                return 0;
            }
            Arrays.fill(sets, 0);
            put(sets, 0, 1);
            for (int f = 0; f < waiting.number; f++) {
                int fitting = 0;
                for (int i = 0; i < clogs; i++) {
                    if (waiting.suits(f, hasBit(lefts, i) ? LEFT : RIGHT, at(sizes, i))) {
                        fitting |= 1 << i;
                    }
                }
                giveOut(fitting);
            }
            int most = 0;
            for (int given = 0; given < 1 << clogs; given++) {
                if (at(sets, given) != 0) {
                    most = Math.max(most, Integer.bitCount(given) / 2);
                }
            }
            return most;
        }

        /** Larger sets come first, so that no foot gets two pairs. */
        private void giveOut(int fitting) {
            for (int given = (1 << clogs) - 1; given >= 0; given--) {
                if (at(sets, given) != 0) {
                    giveOnTopOf(given, fitting & ~given);
                }
            }
        }

        private void giveOnTopOf(int given, int free) {
            for (int left = 0; left < clogs; left++) {
                if (hasBit(lefts & free, left)) {
                    for (int right = 0; right < clogs; right++) {
                        if (hasBit(at(mates, left) & free, right)) {
                            put(sets, given | 1 << left | 1 << right, 1);
                        }
                    }
                }
            }
        }
    }

    /** A year by draws, on a shelf of its own. */
    private static final class Year {
        final Shelf shelf = new Shelf();
        int wentAsPairs;

        void live(Shelf from, int z, int days) {
            shelf.copy(from);
            wentAsPairs = 0;
            for (int day = 0; day < days; day++) {
                if (shelf.clogs < MOST_CLOGS) {
                    int draw = drawOf(z, day);
                    shelf.add(DRY, draw % 2, 30 + draw / 2 % 12, 10 + draw / 32 % 5);
                }
                sendFirstPair();
                shelf.day++;
            }
        }

        private static int drawOf(int z, int day) {
            long x = 7919L * z + 6151L * day + 1;
            return (int) (x * x % 65521 / 4);
        }

        private void sendFirstPair() {
            for (int left = 0; left < shelf.clogs; left++) {
                for (int right = 0; right < shelf.clogs; right++) {
                    if (shelf.areAlikeOn(left, right, shelf.day)) {
                        shelf.removeTwo(left, right);
                        wentAsPairs++;
                        return;
                    }
                }
            }
        }
    }
}
