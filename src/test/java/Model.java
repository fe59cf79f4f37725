import java.math.BigInteger;
import java.util.ArrayList;
import java.util.Arrays;
import java.util.Collections;
import java.util.List;
import java.util.regex.Matcher;
import java.util.regex.Pattern;

/** The document once more, each answer by trying every way, to hold the program against. */
final class Model {
    private static final int BAD = -1, NO = -2, FULL = -3, NONE = -4;
    private static final Pattern ITEM = Pattern.compile("(.)(\\d{1,2}(?:,\\d{1,2})*);");

    private record Clog(int kind, int side, int z, int w, int came) {
        private int dried(int day) {
            return kind == 1 ? Math.min(30, day - came) : 0;
        }

        int size(int day) {
            return z - (int) Math.floor(z * dried(day) / 360.0 + 1e-9);
        }

        int weight(int day) {
            return w + (kind == 3 ? 2 : 0) - (int) Math.floor(w * dried(day) / 90.0 + 1e-9);
        }
    }

    private record State(List<Clog> clogs, int day) {
        State {
            clogs = List.copyOf(clogs);
        }
    }

    private String text = "";
    private State now;
    private List<int[]> waiting = new ArrayList<>();
    private int logLength;
    private int block;
    private boolean[] knots;
    private int stocking;
    private final List<int[]> sounds = new ArrayList<>();
    private final List<State> acts = new ArrayList<>();
    private final List<State> kept = new ArrayList<>();

    Model() {
        text = "c0,0,40,10;c1,0,48,14;c0,1,41,11;c2,1,44,9;c3,1,44,12;c1,1,36,13;c0,0,33,8;f38,39;f42,40;g23,5;k7;k14;s2;";
        lay();
        text = "";
    }

    int write(int letter) {
        if (letter < 32 || letter > 126) {
            return BAD;
        }
        if (text.length() == 200) {
            return FULL;
        }
        text += (char) letter;
        return text.length();
    }

    int wipe() {
        int length = text.length();
        text = "";
        return length;
    }

    int fault() {
        Matcher matcher = ITEM.matcher(text);
        int place = 0;
        int clogs = 0;
        int feet = 0;
        while (place < text.length()) {
            if (!matcher.find(place) || matcher.start() != place) {
                return place;
            }
            char letter = matcher.group(1).charAt(0);
            int[] n = numbers(matcher.group(2));
            clogs += letter == 'c' ? 1 : 0;
            feet += letter == 'f' ? 1 : 0;
            if (!isSo(letter, n) || clogs > 10 || feet > 5) {
                return place;
            }
            place = matcher.end();
        }
        return NONE;
    }

    private static int[] numbers(String parted) {
        return Arrays.stream(parted.split(",")).mapToInt(Integer::parseInt).toArray();
    }

    private static boolean isSo(char letter, int[] n) {
        switch (letter) {
            case 'c': return n.length == 4 && n[0] <= 3 && n[1] <= 1 && n[2] >= 12 && n[2] <= 72 && n[3] >= 1 && n[3] <= 40;
            case 'f': return n.length == 2 && n[0] >= 10 && n[0] <= 72 && n[1] >= 10 && n[1] <= 72;
            case 'g': return n.length == 2 && n[0] >= 1 && n[0] <= 40 && n[1] >= 2 && n[1] <= 9;
            case 'k': return n.length == 1 && n[0] <= 39;
            case 's': return n.length == 1 && n[0] <= 6;
            default: return false;
        }
    }

    int lay() {
        if (fault() != NONE || text.indexOf('c') < 0) {
            return NO;
        }
        List<Clog> clogs = new ArrayList<>();
        waiting = new ArrayList<>();
        logLength = 20;
        block = 4;
        knots = new boolean[40];
        stocking = 2;
        for (String item : text.split(";")) {
            int[] n = numbers(item.substring(1));
            switch (item.charAt(0)) {
                case 'c' -> clogs.add(new Clog(n[0], n[1], n[2], n[3], 0));
                case 'f' -> waiting.add(n);
                case 'g' -> {
                    logLength = n[0];
                    block = n[1];
                }
                case 'k' -> knots[n[0]] = true;
                default -> stocking = n[0];
            }
        }
        now = new State(clogs, 0);
        sounds.clear();
        acts.clear();
        kept.clear();
        return clogs.size();
    }

    private boolean is(int i) {
        return i >= 0 && i < now.clogs.size();
    }

    private Clog at(int i) {
        return now.clogs.get(i);
    }

    int clog(int i, int what) {
        if (!is(i) || what < 0 || what > 4) {
            return BAD;
        }
        Clog c = at(i);
        return new int[] {c.kind, c.side, c.size(now.day), c.weight(now.day), c.came}[what];
    }

    int feet(int f, int side) {
        return f < 0 || f >= waiting.size() || side < 0 || side > 1 ? BAD : waiting.get(f)[side];
    }

    private void become(List<Clog> clogs, int day) {
        acts.add(now);
        if (acts.size() > 8) {
            acts.remove(0);
        }
        now = new State(clogs, day);
    }

    int pass(int n) {
        if (n < 1 || n > 60) {
            return BAD;
        }
        if (now.day + n > 999) {
            return NO;
        }
        become(now.clogs, now.day + n);
        return now.day;
    }

    int come(int kind, int side, int size, int weight) {
        if (kind < 0 || side < 0 || !isSo('c', new int[] {kind, side, size, weight})) {
            return BAD;
        }
        if (now.clogs.size() == 10) {
            return FULL;
        }
        List<Clog> clogs = new ArrayList<>(now.clogs);
        clogs.add(new Clog(kind, side, size, weight, now.day));
        become(clogs, now.day);
        return clogs.size() - 1;
    }

    private static boolean alike(Clog left, Clog right, int day) {
        return left.side == 0 && right.side == 1 && left.kind != 2 && right.kind != 2
            && Math.abs(left.size(day) - right.size(day)) < 2 && Math.abs(left.weight(day) - right.weight(day)) < 4;
    }

    int go(int left, int right) {
        if (!is(left) || !is(right)) {
            return BAD;
        }
        if (!alike(at(left), at(right), now.day)) {
            return NO;
        }
        List<Clog> clogs = new ArrayList<>();
        for (int i = 0; i < now.clogs.size(); i++) {
            if (i != left && i != right) {
                clogs.add(at(i));
            }
        }
        become(clogs, now.day);
        return clogs.size();
    }

    int hole(int i) {
        if (!is(i)) {
            return BAD;
        }
        Clog c = at(i);
        if (c.kind == 2) {
            return NO;
        }
        List<Clog> clogs = new ArrayList<>(now.clogs);
        clogs.set(i, new Clog(2, c.side, c.z, c.w, c.came));
        become(clogs, now.day);
        return c.kind;
    }

    int undo() {
        if (acts.isEmpty()) {
            return NO;
        }
        now = acts.remove(acts.size() - 1);
        return acts.size();
    }

    int mates(int i) {
        if (!is(i)) {
            return BAD;
        }
        int bits = 0;
        for (int k = 0; k < now.clogs.size(); k++) {
            if (alike(at(i), at(k), now.day) || alike(at(k), at(i), now.day)) {
                bits += 1 << k;
            }
        }
        return bits;
    }

    private int[] bestWith;
    private int bestNumber;
    private int bestApart;

    private void tryAll(int left, int[] with, int number, int apart) {
        int n = now.clogs.size();
        if (left == n) {
            if (number > bestNumber || number == bestNumber && apart < bestApart) {
                bestWith = with.clone();
                bestNumber = number;
                bestApart = apart;
            }
            return;
        }
        if (at(left).side == 0) {
            for (int right = 0; right < n; right++) {
                if (with[right] == NONE && alike(at(left), at(right), now.day)) {
                    with[left] = right;
                    with[right] = left;
                    tryAll(left + 1, with, number + 1, apart + Math.abs(at(left).size(now.day) - at(right).size(now.day)));
                    with[left] = NONE;
                    with[right] = NONE;
                }
            }
        }
        tryAll(left + 1, with, number, apart);
    }

    private void pairUp() {
        int[] with = new int[now.clogs.size()];
        Arrays.fill(with, NONE);
        bestNumber = -1;
        tryAll(0, with, 0, 0);
    }

    int pairs(int k) {
        if (k < -2 || k >= now.clogs.size()) {
            return BAD;
        }
        pairUp();
        return k == -1 ? bestNumber : k == -2 ? bestApart : bestWith[k];
    }

    int leftOver(int side) {
        if (side < 0 || side > 1) {
            return BAD;
        }
        pairUp();
        int over = 0;
        for (int i = 0; i < bestWith.length; i++) {
            over += at(i).side == side && bestWith[i] == NONE ? 1 : 0;
        }
        return over;
    }

    private boolean suits(int f, Clog c) {
        int over = c.size(now.day) - waiting.get(f)[c.side] - stocking;
        return over >= 0 && over <= 4;
    }

    private int serve(int f, int gone) {
        if (f == waiting.size()) {
            return 0;
        }
        int most = serve(f + 1, gone);
        for (int l = 0; l < now.clogs.size() && most < waiting.size() - f; l++) {
            for (int r = 0; r < now.clogs.size() && most < waiting.size() - f; r++) {
                if ((gone >> l & 1) == 0 && (gone >> r & 1) == 0 && alike(at(l), at(r), now.day)
                    && suits(f, at(l)) && suits(f, at(r))) {
                    most = Math.max(most, 1 + serve(f + 1, gone | 1 << l | 1 << r));
                }
            }
        }
        return most;
    }

    int served() {
        return serve(0, 0);
    }

    int whose(int i) {
        if (!is(i)) {
            return BAD;
        }
        int bits = 0;
        for (int f = 0; f < waiting.size(); f++) {
            bits += suits(f, at(i)) ? 1 << f : 0;
        }
        return bits;
    }

    int alikeBy(int left, int right) {
        if (!is(left) || !is(right) || at(left).side != 0 || at(right).side != 1) {
            return BAD;
        }
        for (int d = 0; d <= 60; d++) {
            if (alike(at(left), at(right), now.day + d)) {
                return d;
            }
        }
        return NONE;
    }

    int dry(int i, int what) {
        if (!is(i) || what < 0 || what > 1) {
            return BAD;
        }
        for (int d = 0; ; d++) {
            boolean less = false;
            for (int later = d + 1; later < 100; later++) {
                less |= at(i).size(now.day + later) < at(i).size(now.day + d);
            }
            if (!less) {
                return what == 0 ? d : at(i).size(now.day + d);
            }
        }
    }

    /** Every way to saw, the ones that saw a block earlier first, so that of as many the first stays. */
    private List<Integer> sawFrom(int piece, List<List<Integer>> known) {
        if (piece >= logLength) {
            return List.of();
        }
        if (known.get(piece) != null) {
            return known.get(piece);
        }
        List<Integer> best = sawFrom(piece + 1, known);
        boolean canBe = piece + block <= logLength;
        for (int i = piece; canBe && i < piece + block; i++) {
            canBe = !knots[i];
        }
        if (canBe) {
            List<Integer> with = new ArrayList<>(List.of(piece));
            with.addAll(sawFrom(piece + block, known));
            if (with.size() >= best.size()) {
                best = with;
            }
        }
        known.set(piece, best);
        return best;
    }

    int sawn(int k) {
        if (k < -1) {
            return BAD;
        }
        List<Integer> begins = sawFrom(0, new ArrayList<>(Collections.nCopies(40, null)));
        return k == -1 ? begins.size() : k < begins.size() ? begins.get(k) : NONE;
    }

    int sizes(int k, int what) {
        if (k < 1 || k > 5 || what < 0 || what > 1) {
            return BAD;
        }
        int[] many = new int[80];
        for (Clog c : now.clogs) {
            for (int from = 1; from <= 72 && c.kind != 2; from++) {
                int over = c.size(now.day) - from;
                many[from] += over >= 0 && over < k ? 1 : 0;
            }
        }
        int best = 1;
        for (int from = 72; from >= 1; from--) {
            best = many[from] >= many[best] ? from : best;
        }
        return what == 0 ? best : many[best];
    }

    int heard(int i, int t, int clear) {
        if (i < 0 || i > 9 || t < 1 || t > 9 || clear < 0 || clear > 1) {
            return BAD;
        }
        if (sounds.size() == 8) {
            return FULL;
        }
        sounds.add(new int[] {i, t, clear});
        return sounds.size();
    }

    int forget() {
        int were = sounds.size();
        sounds.clear();
        return were;
    }

    int thick(int i) {
        if (i < 0 || i > 9) {
            return BAD;
        }
        int low = 1;
        int high = 9;
        for (int[] s : sounds) {
            if (s[0] == i && s[2] == 1) {
                high = Math.min(high, s[1]);
            }
            if (s[0] == i && s[2] == 0) {
                low = Math.max(low, s[1] + 1);
            }
        }
        int bits = 0;
        for (int t = low; t <= high; t++) {
            bits += 1 << t;
        }
        return bits;
    }

    int whole(int n, int x, int part) {
        if (n < 0 || n > 4 || x < 0 || x > 10 || part < 0 || part > 1) {
            return BAD;
        }
        BigInteger above = BigInteger.valueOf(10 - x).pow(2 * n);
        BigInteger below = BigInteger.TEN.pow(2 * n);
        return (part == 0 ? above : below).divide(above.gcd(below)).intValue();
    }

    /** Cuts in the mean times 100 to the power of 6, by all that can come: each way's likelihood times its cuts. */
    private static BigInteger mean(int[] order, int x, int cut, BigInteger likely) {
        if (cut == order.length) {
            return likely.multiply(BigInteger.valueOf(cut));
        }
        BigInteger part = likely.divide(BigInteger.valueOf(100));
        BigInteger over = part.multiply(BigInteger.valueOf((long) order[cut] * x));
        return over.multiply(BigInteger.valueOf(cut + 1)).add(mean(order, x, cut + 1, likely.subtract(over)));
    }

    int together(int n, int x) {
        if (n < 0 || n > 3 || x < 0 || x > 33) {
            return BAD;
        }
        int[][] both = {{}, {1, 1}, {1, 1, 2, 2}, {1, 1, 2, 2, 3, 3}};
        int[][] behind = {{}, {1, 1}, {1, 2, 1, 2}, {1, 2, 3, 1, 2, 3}};
        BigInteger all = BigInteger.TEN.pow(12);
        BigInteger more = mean(both[n], x, 0, all).subtract(mean(behind[n], x, 0, all));
        return more.multiply(BigInteger.valueOf(10000)).divide(all).intValue() + 100000;
    }

    int year(int z, int n, int what) {
        if (z < 0 || z > 9999 || n < 1 || n > 60 || what < 0 || what > 1) {
            return BAD;
        }
        List<Clog> clogs = new ArrayList<>(now.clogs);
        int went = 0;
        for (int d = 0; d < n; d++) {
            if (clogs.size() < 10) {
                BigInteger x = BigInteger.valueOf(7919L * z + 6151L * d + 1);
                int draw = x.multiply(x).mod(BigInteger.valueOf(65521)).intValue() / 4;
                clogs.add(new Clog(0, draw % 2, 30 + draw / 2 % 12, 10 + draw / 32 % 5, now.day + d));
            }
            went += sendOne(clogs, now.day + d) ? 1 : 0;
        }
        return what == 0 ? went : clogs.size();
    }

    private static boolean sendOne(List<Clog> clogs, int day) {
        for (Clog left : clogs) {
            for (Clog right : clogs) {
                if (alike(left, right, day)) {
                    int l = clogs.indexOf(left);
                    int r = clogs.indexOf(right);
                    clogs.remove(Math.max(l, r));
                    clogs.remove(Math.min(l, r));
                    return true;
                }
            }
        }
        return false;
    }

    int keep() {
        if (kept.size() == 2) {
            return FULL;
        }
        kept.add(now);
        return kept.size();
    }

    int back() {
        if (kept.isEmpty()) {
            return NO;
        }
        now = kept.remove(kept.size() - 1);
        acts.clear();
        return kept.size();
    }

    int count(int what) {
        switch (what) {
            case 0: return now.clogs.size();
            case 1: return waiting.size();
            case 2: return now.day;
            case 3: {
                int inside = 0;
                for (int i = 0; i < logLength; i++) {
                    inside += knots[i] ? 1 : 0;
                }
                return inside;
            }
            case 4: return (int) now.clogs.stream().filter(c -> c.kind == 2).count();
            case 5: return sounds.size();
            case 6: return acts.size();
            case 7: return kept.size();
            case 8: return text.length();
            case 9: return stocking;
            default: return BAD;
        }
    }
}
