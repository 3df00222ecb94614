import java.math.BigInteger;
import java.util.ArrayDeque;
import java.util.ArrayList;
import java.util.Arrays;
import java.util.HashSet;
import java.util.List;
import java.util.Set;
import java.util.TreeSet;

/**
 * The document word by word, slowly and with sets of dots: what ModelTest holds ShadeTree against.
 * It shares no thought with the class: nodes are looked up by their definition, shares go through
 * all orders of rows, fades through all cases of a whole row.
 */
final class PlainModel {
    static final int UNKNOWN = -1, BAD = -2, LATE = -3, FULL = -4, NONE = -9;

    private final List<Integer> text = new ArrayList<>();
    private int way = 4, w = 1, h = 1;
    private int[] shades = {0};
    private final List<int[]> before = new ArrayList<>();
    private final List<int[]> seen = new ArrayList<>();
    private final int[][] slots = new int[2][];
    private long seed = 0;

    // ---- the terms

    private boolean isDot(int d) {
        return d >= 0 && d < w * h;
    }

    private boolean neighbours(int a, int b, int byWay) {
        int dx = Math.abs(a % w - b % w);
        int dy = Math.abs(a / w - b / w);
        return byWay == 4 ? dx + dy == 1 : Math.max(dx, dy) == 1;
    }

    private List<Set<Integer>> partsOf(Set<Integer> dots, int byWay) {
        List<Set<Integer>> all = new ArrayList<>();
        Set<Integer> rest = new TreeSet<>(dots);
        while (!rest.isEmpty()) {
            Set<Integer> part = new TreeSet<>();
            ArrayDeque<Integer> open = new ArrayDeque<>();
            int start = rest.iterator().next();
            rest.remove(start);
            open.add(start);
            while (!open.isEmpty()) {
                int a = open.remove();
                part.add(a);
                for (Integer b : new ArrayList<>(rest)) {
                    if (neighbours(a, b, byWay)) {
                        rest.remove(b);
                        open.add(b);
                    }
                }
            }
            all.add(part);
        }
        return all;
    }

    private static Set<Integer> bright(int[] pic, int t) {
        Set<Integer> dots = new TreeSet<>();
        for (int d = 0; d < pic.length; d++) {
            if (pic[d] >= t) {
                dots.add(d);
            }
        }
        return dots;
    }

    private List<Set<Integer>> partsAt(int[] pic, int t) {
        return partsOf(bright(pic, t), way);
    }

    private Set<Integer> partHolding(int[] pic, int t, int dot) {
        for (Set<Integer> part : partsAt(pic, t)) {
            if (part.contains(dot)) {
                return part;
            }
        }
        return null;
    }

    private Set<Integer> nodeOf(int[] pic, int dot) {
        return partHolding(pic, pic[dot], dot);
    }

    private Set<Set<Integer>> nodes(int[] pic) {
        Set<Set<Integer>> all = new HashSet<>();
        for (int t = 0; t <= 9; t++) {
            for (Set<Integer> part : partsAt(pic, t)) {
                for (int d : part) {
                    if (pic[d] == t) {
                        all.add(part);
                    }
                }
            }
        }
        return all;
    }

    private static int level(int[] pic, Set<Integer> node) {
        int least = 9;
        for (int d : node) {
            least = Math.min(least, pic[d]);
        }
        return least;
    }

    private static int most(int[] pic, Set<Integer> node) {
        int most = 0;
        for (int d : node) {
            most = Math.max(most, pic[d]);
        }
        return most;
    }

    private static int light(int[] pic, Set<Integer> node) {
        int sum = 0;
        for (int d : node) {
            sum += pic[d];
        }
        return sum;
    }

    private static int head(int[] pic, Set<Integer> node) {
        for (int d : node) {
            if (pic[d] == level(pic, node)) {
                return d;
            }
        }
        return NONE;
    }

    private Set<Integer> parent(int[] pic, Set<Integer> node) {
        Set<Integer> best = null;
        for (Set<Integer> other : nodes(pic)) {
            if (!other.equals(node) && other.containsAll(node)
                    && (best == null || other.size() < best.size())) {
                best = other;
            }
        }
        return best;
    }

    private List<Set<Integer>> children(int[] pic, Set<Integer> node) {
        List<Set<Integer>> all = new ArrayList<>();
        for (Set<Integer> other : nodes(pic)) {
            if (node.equals(parent(pic, other))) {
                all.add(other);
            }
        }
        return all;
    }

    private int depth(int[] pic, Set<Integer> node) {
        int count = 0;
        for (Set<Integer> other : nodes(pic)) {
            if (!other.equals(node) && other.containsAll(node)) {
                count++;
            }
        }
        return count;
    }

    private int columns(Set<Integer> node) {
        int from = 99;
        int to = -1;
        for (int d : node) {
            from = Math.min(from, d % w);
            to = Math.max(to, d % w);
        }
        return to - from + 1;
    }

    private int rows(Set<Integer> node) {
        int from = 99;
        int to = -1;
        for (int d : node) {
            from = Math.min(from, d / w);
            to = Math.max(to, d / w);
        }
        return to - from + 1;
    }

    private int rise(int[] pic, Set<Integer> node) {
        int level = level(pic, node);
        int answer = NONE;
        for (int t = 0; t < level; t++) {
            if (most(pic, partHolding(pic, t, node.iterator().next())) > most(pic, node)) {
                answer = level - t;
            }
        }
        return answer;
    }

    private int[] sifted(int[] pic, int how, int n) {
        int[] to = new int[pic.length];
        Set<Set<Integer>> nodes = nodes(pic);
        for (int d = 0; d < pic.length; d++) {
            int best = level(pic, bright(pic, 0));
            for (Set<Integer> node : nodes) {
                boolean big = how == 0 ? node.size() >= n : columns(node) >= n || rows(node) >= n;
                if (node.contains(d) && big) {
                    best = Math.max(best, level(pic, node));
                }
            }
            to[d] = best;
        }
        return to;
    }

    private static int[] negated(int[] pic) {
        int[] to = new int[pic.length];
        for (int d = 0; d < pic.length; d++) {
            to[d] = 9 - pic[d];
        }
        return to;
    }

    private static int[] painted(int[] pic, int dot, int v) {
        int[] to = pic.clone();
        to[dot] = v;
        return to;
    }

    private int gain(int[] pic, Set<Integer> node, int d) {
        int t = Math.max(0, level(pic, node) - d);
        return partHolding(pic, t, node.iterator().next()).size() - node.size();
    }

    private static int fraction(BigInteger above, BigInteger below, boolean upper) {
        BigInteger common = above.gcd(below);
        return (upper ? above : below).divide(common).intValueExact();
    }

    private static int fraction(long above, long below, boolean upper) {
        return fraction(BigInteger.valueOf(above), BigInteger.valueOf(below), upper);
    }

    private void doing(int[] to) {
        before.add(shades);
        if (before.size() > 14) {
            before.remove(0);
        }
        shades = to;
    }

    // ---- the calls

    int write(int letter) {
        if (letter < 0 || letter > 255) {
            return BAD;
        }
        if (text.size() == 40) {
            return FULL;
        }
        text.add(letter);
        return text.size();
    }

    int wipe() {
        int was = text.size();
        text.clear();
        return was;
    }

    /** Could these letters, with others behind them, be a picture? */
    private static boolean begins(String letters) {
        String shape = "P[48][1-6][1-6][0-9]*";
        String longest = "P466" + "0".repeat(36);
        if (letters.length() < 4) {
            return (letters + longest.substring(letters.length())).matches(shape);
        }
        return letters.matches(shape) && letters.length() <= size(letters);
    }

    private static int size(String letters) {
        return 4 + (letters.charAt(2) - '0') * (letters.charAt(3) - '0');
    }

    private String textAsString() {
        StringBuilder s = new StringBuilder();
        for (int letter : text) {
            s.append((char) letter);
        }
        return s.toString();
    }

    int fault() {
        String s = textAsString();
        for (int n = 1; n <= s.length(); n++) {
            if (!begins(s.substring(0, n))) {
                return n - 1;
            }
        }
        return s.length() >= 4 && s.length() == size(s) ? NONE : s.length();
    }

    int picture() {
        if (fault() != NONE) {
            return LATE;
        }
        String s = textAsString();
        way = s.charAt(1) - '0';
        w = s.charAt(2) - '0';
        h = s.charAt(3) - '0';
        shades = new int[w * h];
        for (int d = 0; d < w * h; d++) {
            shades[d] = s.charAt(4 + d) - '0';
        }
        before.clear();
        Arrays.fill(slots, null);
        return nodes(shades).size();
    }

    int about(int what) {
        switch (what) {
            case 0: return way;
            case 1: return w;
            case 2: return h;
            case 3: return nodes(shades).size();
            case 4: {
                int count = 0;
                for (Set<Integer> node : nodes(shades)) {
                    count += children(shades, node).isEmpty() ? 1 : 0;
                }
                return count;
            }
            case 5: {
                int most = 0;
                for (Set<Integer> node : nodes(shades)) {
                    most = Math.max(most, depth(shades, node));
                }
                return most;
            }
            case 6: return light(shades, bright(shades, 0));
            case 7: return before.size();
            case 8: return seen.size();
            case 9: return text.size();
            default: return BAD;
        }
    }

    int shade(int dot) {
        return isDot(dot) ? shades[dot] : UNKNOWN;
    }

    int node(int dot, int what) {
        if (!isDot(dot)) {
            return UNKNOWN;
        }
        Set<Integer> node = nodeOf(shades, dot);
        switch (what) {
            case 0: return head(shades, node);
            case 1: return level(shades, node);
            case 2: return node.size();
            case 3: return light(shades, node);
            case 4: {
                Set<Integer> parent = parent(shades, node);
                return parent == null ? NONE : head(shades, parent);
            }
            case 5: return children(shades, node).size();
            case 6: return depth(shades, node);
            case 7: return columns(node);
            case 8: return rows(node);
            case 9: return rise(shades, node);
            default: return BAD;
        }
    }

    long dots(int dot) {
        if (!isDot(dot)) {
            return UNKNOWN;
        }
        long bits = 0;
        for (int d : nodeOf(shades, dot)) {
            bits |= 1L << d;
        }
        return bits;
    }

    int parts(int t) {
        return t < 0 || t > 9 ? BAD : partsAt(shades, t).size();
    }

    int paint(int dot, int v) {
        if (!isDot(dot)) {
            return UNKNOWN;
        }
        if (v < 0 || v > 9) {
            return BAD;
        }
        int was = shades[dot];
        doing(painted(shades, dot, v));
        return was;
    }

    int negative() {
        doing(negated(shades));
        return nodes(shades).size();
    }

    private static boolean badSieve(int how, int n) {
        return how < 0 || how > 1 || n < 1 || n > (how == 0 ? 36 : 6);
    }

    int sift(int how, int n) {
        if (badSieve(how, n)) {
            return BAD;
        }
        int[] was = shades;
        doing(sifted(shades, how, n));
        int changed = 0;
        for (int d = 0; d < was.length; d++) {
            changed += was[d] == shades[d] ? 0 : 1;
        }
        return changed;
    }

    int undo() {
        if (before.isEmpty()) {
            return LATE;
        }
        shades = before.remove(before.size() - 1);
        return before.size();
    }

    int pass(int one, int other) {
        if (!isDot(one) || !isDot(other)) {
            return UNKNOWN;
        }
        int best = NONE;
        for (int t = 0; t <= 9; t++) {
            Set<Integer> part = partHolding(shades, t, one);
            if (part != null && part.contains(other)) {
                best = t;
            }
        }
        return best;
    }

    int grows(int dot, int d, boolean upper) {
        if (!isDot(dot)) {
            return UNKNOWN;
        }
        if (d < 1 || d > 9) {
            return BAD;
        }
        Set<Integer> node = nodeOf(shades, dot);
        return fraction(gain(shades, node, d), node.size(), upper);
    }

    private boolean growsMore(Set<Integer> one, Set<Integer> other, int d) {
        return gain(shades, one, d) * other.size() > gain(shades, other, d) * one.size();
    }

    int steady(int dot, int d) {
        if (!isDot(dot)) {
            return UNKNOWN;
        }
        if (d < 1 || d > 9) {
            return BAD;
        }
        Set<Integer> node = nodeOf(shades, dot);
        Set<Integer> parent = parent(shades, node);
        if (parent != null && growsMore(node, parent, d)) {
            return 0;
        }
        for (Set<Integer> child : children(shades, node)) {
            if (growsMore(node, child, d)) {
                return 0;
            }
        }
        return 1;
    }

    int judge(int n, long row) {
        if (n < 1 || n > 4 || row < 0 || Long.toString(row).length() > 4 * n) {
            return BAD;
        }
        String figures = "0".repeat(4 * n - Long.toString(row).length()) + row;
        int[] pic = shades;
        for (int i = 0; i < n; i++) {
            String told = figures.substring(4 * i, 4 * i + 4);
            int two = Integer.parseInt(told.substring(1, 3));
            int last = told.charAt(3) - '0';
            boolean fine = false;
            switch (told.charAt(0)) {
                case '1':
                    fine = isDot(two);
                    pic = fine ? painted(pic, two, last) : pic;
                    break;
                case '2':
                    fine = told.equals("2000");
                    pic = negated(pic);
                    break;
                case '3':
                    fine = last == 0 && !badSieve(0, two);
                    pic = fine ? sifted(pic, 0, two) : pic;
                    break;
                case '4':
                    fine = told.charAt(1) == '0' && last == 0 && !badSieve(1, two);
                    pic = fine ? sifted(pic, 1, two) : pic;
                    break;
                case '5':
                    fine = isDot(two) && parent(pic, nodeOf(pic, two)) != null
                            && level(pic, parent(pic, nodeOf(pic, two))) == last;
                    break;
                case '6':
                    fine = partsAt(pic, last).size() >= two;
                    break;
                case '7':
                    fine = isDot(two) && rise(pic, nodeOf(pic, two)) == last;
                    break;
                default:
                    break;
            }
            if (!fine) {
                return i;
            }
        }
        return NONE;
    }

    private int partsOfRows(Set<Integer> rows, int t) {
        Set<Integer> dots = new TreeSet<>();
        for (int d : bright(shades, t)) {
            if (rows.contains(d / w)) {
                dots.add(d);
            }
        }
        return partsOf(dots, way).size();
    }

    /** Goes through all orders of rows; {sum, orders}. */
    private void orders(List<Integer> come, int row, int t, long[] sum) {
        if (come.size() == h) {
            Set<Integer> there = new HashSet<>(come.subList(0, come.indexOf(row)));
            int was = partsOfRows(there, t);
            there.add(row);
            sum[0] += partsOfRows(there, t) - was;
            sum[1]++;
            return;
        }
        for (int next = 0; next < h; next++) {
            if (!come.contains(next)) {
                come.add(next);
                orders(come, row, t, sum);
                come.remove(come.size() - 1);
            }
        }
    }

    int share(int row, int t, boolean upper) {
        if (row < 0 || row >= h) {
            return UNKNOWN;
        }
        if (t < 0 || t > 9) {
            return BAD;
        }
        long[] sum = {0, 0};
        orders(new ArrayList<>(), row, t, sum);
        return fraction(sum[0], sum[1], upper);
    }

    int see(int one, int other, int joined) {
        if (!isDot(one) || !isDot(other)) {
            return UNKNOWN;
        }
        if (joined < 0 || joined > 1) {
            return BAD;
        }
        if (seen.size() == 6) {
            return FULL;
        }
        seen.add(new int[] {one, other, joined});
        return seen.size();
    }

    int unsee() {
        int was = seen.size();
        seen.clear();
        return was;
    }

    int ways(int what) {
        if (what < 0 || what > 1) {
            return BAD;
        }
        TreeSet<Integer> all = new TreeSet<>();
        for (int t = 0; t <= 9; t++) {
            for (int by : new int[] {4, 8}) {
                boolean so = true;
                for (int[] s : seen) {
                    boolean joined = false;
                    for (Set<Integer> part : partsOf(bright(shades, t), by)) {
                        joined |= part.contains(s[0]) && part.contains(s[1]);
                    }
                    so &= joined == (s[2] == 1);
                }
                if (so) {
                    all.add(10 * t + by);
                }
            }
        }
        return what == 0 ? all.size() : all.isEmpty() ? NONE : all.first();
    }

    int fades(int row, int t, int v, int x, boolean upper) {
        if (row < 0 || row >= h) {
            return UNKNOWN;
        }
        if (t < 1 || t > 9 || v < 0 || v > 36 || x < 0 || x > 10) {
            return BAD;
        }
        BigInteger sum = BigInteger.ZERO;
        for (int gone = 0; gone < 1 << w; gone++) {
            int[] pic = shades.clone();
            BigInteger weight = BigInteger.ONE;
            for (int c = 0; c < w; c++) {
                boolean goes = (gone >> c & 1) != 0;
                weight = weight.multiply(BigInteger.valueOf(goes ? x : 10 - x));
                if (goes) {
                    pic[row * w + c] = 0;
                }
            }
            if (partsAt(pic, t).size() >= v) {
                sum = sum.add(weight);
            }
        }
        return fraction(sum, BigInteger.TEN.pow(w), upper);
    }

    long seed(long v) {
        long was = seed;
        seed = v;
        return was;
    }

    int drawn(int m) {
        if (m < 1 || m > 20) {
            return BAD;
        }
        int[] pic = shades;
        int sum = 0;
        BigInteger modulus = BigInteger.ONE.shiftLeft(64);
        for (int i = 0; i < m; i++) {
            BigInteger x = BigInteger.valueOf(seed)
                    .multiply(new BigInteger("6364136223846793005"))
                    .add(new BigInteger("1442695040888963407")).mod(modulus);
            seed = x.longValue();
            BigInteger upper = x.shiftRight(33);
            int dot = upper.mod(BigInteger.valueOf(w * h)).intValue();
            int choice = upper.divide(BigInteger.valueOf(64)).mod(BigInteger.valueOf(12)).intValue();
            pic = choice == 11 ? sifted(pic, 0, 2)
                    : choice == 10 ? negated(pic) : painted(pic, dot, choice);
            sum += nodes(pic).size();
        }
        return sum;
    }

    int keep(int slot) {
        if (slot < 0 || slot > 1) {
            return UNKNOWN;
        }
        slots[slot] = shades.clone();
        return nodes(shades).size();
    }

    int again(int slot) {
        if (slot < 0 || slot > 1) {
            return UNKNOWN;
        }
        if (slots[slot] == null) {
            return LATE;
        }
        shades = slots[slot].clone();
        before.clear();
        return nodes(shades).size();
    }
}
