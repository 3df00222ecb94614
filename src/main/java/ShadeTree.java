/**
 * A tree of shades over a small picture of dots.
 *
 * <p>A set of dots is a long, one bit a dot: 36 dots fit. A picture is held as ten such sets, for
 * each t the dots of shade t or more, so that a part is found by spreading from one of its dots,
 * and a node is told by its part and its level alone; no tree has to be kept up to date.
 */
public final class ShadeTree {
    public static final int UNKNOWN = -1, BAD = -2, LATE = -3, FULL = -4, NONE = -9;

    private static final int MOST_DOTS = 36;
    private static final int MOST_SIDE = 6;
    private static final int BRIGHTEST = 9;
    private static final int STEPS = 10;
    private static final int FOUR = 4;
    private static final int EIGHT = 8;
    private static final int BY_AREA = 0;
    private static final int BY_BOX = 1;
    private static final int MOST_DRAWS = 20;
    private static final int MOST_TOLD = 4;
    private static final long SEED_FACTOR = 6364136223846793005L;
    private static final long SEED_STEP = 1442695040888963407L;

    private final Text text;
    private final Grid grid;
    private final Shades now;
    private final Tree tree;
    private final Shades trial;
    private final Tree trialTree;
    private final Doings doings;
    private final Slots slots;
    private final Sights sights;
    private long seedNow;

    public ShadeTree() {
        text = new Text();
        grid = new Grid();
        now = new Shades(grid);
        tree = new Tree(grid, now);
        trial = new Shades(grid);
        trialTree = new Tree(grid, trial);
        doings = new Doings();
        slots = new Slots();
        sights = new Sights();
        seedNow = 0;
    }

    // ---- the picture

    public int write(int letter) {
        if (letter < 0 || letter > 255) {
            return BAD;
        }
        return text.add(letter) ? text.size() : FULL;
    }

    public int wipe() {
        int was = text.size();
        text.clear();
        return was;
    }

    public int fault() {
        return text.firstFault();
    }

    public int picture() {
        if (text.firstFault() != NONE) {
            return LATE;
        }
        grid.lay(text.figure(1), text.figure(2), text.figure(3));
        now.darken();
        for (int dot = 0; dot < grid.size(); dot++) {
            now.set(dot, text.figure(4 + dot));
        }
        doings.clear();
        slots.clear();
        return tree.countNodes();
    }

    public int about(int what) {
        switch (what) {
            case 0:
                return grid.way();
            case 1:
                return grid.wide();
            case 2:
                return grid.high();
            case 3:
                return tree.countNodes();
            case 4:
                return tree.countLeaves();
            case 5:
                return tree.greatestDepth();
            case 6:
                return now.light(grid.all());
            case 7:
                return doings.size();
            case 8:
                return sights.size();
            case 9:
                return text.size();
            default:
                return BAD;
        }
    }

    public int shade(int dot) {
        return grid.hasDot(dot) ? now.of(dot) : UNKNOWN;
    }

    public int node(int dot, int what) {
        if (!grid.hasDot(dot)) {
            return UNKNOWN;
        }
        int level = now.of(dot);
        long part = tree.nodeOf(dot);
        switch (what) {
            case 0:
                return tree.head(part, level);
            case 1:
                return level;
            case 2:
                return Long.bitCount(part);
            case 3:
                return now.light(part);
            case 4:
                return tree.parentHead(part, level);
            case 5:
                return tree.countChildren(part, level);
            case 6:
                return tree.depth(part, level);
            case 7:
                return grid.columnsOf(part);
            case 8:
                return grid.rowsOf(part);
            case 9:
                return tree.rise(part, level);
            default:
                return BAD;
        }
    }

    public long dots(int dot) {
        return grid.hasDot(dot) ? tree.nodeOf(dot) : UNKNOWN;
    }

    public int parts(int t) {
        return isShade(t) ? grid.countParts(now.atLeast(t), grid.way()) : BAD;
    }

    // ---- doings

    public int paint(int dot, int v) {
        if (!grid.hasDot(dot)) {
            return UNKNOWN;
        }
        if (!isShade(v)) {
            return BAD;
        }
        int was = now.of(dot);
        doings.add(now);
        now.set(dot, v);
        return was;
    }

    public int negative() {
        doings.add(now);
        now.turn();
        return tree.countNodes();
    }

    public int sift(int how, int n) {
        if (!isSieve(how, n)) {
            return BAD;
        }
        doings.add(now);
        return now.thin(how, n);
    }

    public int undo() {
        return doings.takeBack(now) ? doings.size() : LATE;
    }

    // ---- passes, growth

    public int pass(int one, int other) {
        if (!grid.hasDot(one) || !grid.hasDot(other)) {
            return UNKNOWN;
        }
        for (int t = BRIGHTEST; t > 0; t--) {
            if (grid.joined(now.atLeast(t), one, other, grid.way())) {
                return t;
            }
        }
        return 0;
    }

    public int grows(int dot, int d, boolean upper) {
        if (!grid.hasDot(dot)) {
            return UNKNOWN;
        }
        if (!isStep(d)) {
            return BAD;
        }
        long part = tree.nodeOf(dot);
        return fraction(tree.gain(part, now.of(dot), d), Long.bitCount(part), upper);
    }

    public int steady(int dot, int d) {
        if (!grid.hasDot(dot)) {
            return UNKNOWN;
        }
        if (!isStep(d)) {
            return BAD;
        }
        return tree.isSteady(tree.nodeOf(dot), now.of(dot), d) ? 1 : 0;
    }

    public int judge(int n, long row) {
        if (n < 1 || n > MOST_TOLD || row < 0 || withoutLast(row, n) != 0) {
            return BAD;
        }
        trial.copy(now);
        for (int place = 0; place < n; place++) {
            int told = (int) (withoutLast(row, n - 1 - place) % 10000);
            if (!comesTrue(told / 1000, told / 10 % 100, told % 10)) {
                return place;
            }
        }
        return NONE;
    }

    public int share(int row, int t, boolean upper) {
        if (!grid.hasRow(row)) {
            return UNKNOWN;
        }
        if (!isShade(t)) {
            return BAD;
        }
        return fraction(sharedOut(now.atLeast(t), row), factorial(grid.high()), upper);
    }

    // ---- seen

    public int see(int one, int other, int joined) {
        if (!grid.hasDot(one) || !grid.hasDot(other)) {
            return UNKNOWN;
        }
        if (joined != 0 && joined != 1) {
            return BAD;
        }
        return sights.add(one, other, joined == 1) ? sights.size() : FULL;
    }

    public int unsee() {
        int was = sights.size();
        sights.clear();
        return was;
    }

    public int ways(int what) {
        if (what != 0 && what != 1) {
            return BAD;
        }
        int count = 0;
        int first = NONE;
        for (int t = 0; t <= BRIGHTEST; t++) {
            for (int way = FOUR; way <= EIGHT; way += FOUR) {
                if (sights.hold(grid, now.atLeast(t), way)) {
                    count++;
                    first = first == NONE ? 10 * t + way : first;
                }
            }
        }
        return what == 0 ? count : first;
    }

    // ---- chances

    public int fades(int row, int t, int v, int x, boolean upper) {
        if (!grid.hasRow(row)) {
            return UNKNOWN;
        }
        if (t < 1 || t > BRIGHTEST || v < 0 || v > MOST_DOTS || x < 0 || x > 10) {
            return BAD;
        }
        long bright = now.atLeast(t);
        long mayFade = bright & grid.row(row);
        return fraction(fadedOut(bright, mayFade, v, x), power(10, Long.bitCount(mayFade)), upper);
    }

    public long seed(long v) {
        long was = seedNow;
        seedNow = v;
        return was;
    }

    public int drawn(int m) {
        if (m < 1 || m > MOST_DRAWS) {
            return BAD;
        }
        trial.copy(now);
        int nodes = 0;
        for (int time = 0; time < m; time++) {
            seedNow = seedNow * SEED_FACTOR + SEED_STEP;
            change(seedNow >>> 33);
            nodes += trialTree.countNodes();
        }
        return nodes;
    }

    // ---- slots

    public int keep(int slot) {
        return slots.put(slot, now) ? tree.countNodes() : UNKNOWN;
    }

    public int again(int slot) {
        if (!slots.has(slot)) {
            return UNKNOWN;
        }
        if (!slots.bringBack(slot, now)) {
            return LATE;
        }
        doings.clear();
        return tree.countNodes();
    }

    // ---- what the calls share

    private static boolean isShade(int v) {
        return v >= 0 && v <= BRIGHTEST;
    }

    private static boolean isStep(int d) {
        return d >= 1 && d <= BRIGHTEST;
    }

    private static boolean isSieve(int how, int n) {
        if (how == BY_AREA) {
            return n >= 1 && n <= MOST_DOTS;
        }
        return how == BY_BOX && n >= 1 && n <= MOST_SIDE;
    }

    /** The row of told doings without its last ones. */
    private static long withoutLast(long row, int count) {
        long rest = row;
        for (int i = 0; i < count && i < MOST_TOLD; i++) {
            rest /= 10000;
        }
        return rest;
    }

    /** Does a told doing on the trial picture, or looks whether what is told of it is so. */
    private boolean comesTrue(int kind, int two, int last) {
        switch (kind) {
            case 1:
                return trialPainted(two, last);
            case 2:
                return two == 0 && last == 0 && trialTurned();
            case 3:
                return last == 0 && trialThinned(BY_AREA, two);
            case 4:
                return last == 0 && trialThinned(BY_BOX, two);
            case 5:
                return grid.hasDot(two)
                        && trialTree.parentLevel(trialTree.nodeOf(two), trial.of(two)) == last;
            case 6:
                return grid.countParts(trial.atLeast(last), grid.way()) >= two;
            case 7:
                return grid.hasDot(two)
                        && trialTree.rise(trialTree.nodeOf(two), trial.of(two)) == last;
            default:
                return false;
        }
    }

    private boolean trialPainted(int dot, int v) {
        if (!grid.hasDot(dot)) {
            return false;
        }
        trial.set(dot, v);
        return true;
    }

    private boolean trialTurned() {
        trial.turn();
        return true;
    }

    private boolean trialThinned(int how, int n) {
        if (!isSieve(how, n)) {
            return false;
        }
        trial.thin(how, n);
        return true;
    }

    /** One drawn doing on the trial picture. */
    private void change(long bits) {
        int size = grid.size();
        if (size < 1) {
            return;
        }
        int dot = (int) (bits % size);
        int choice = (int) (bits / 64 % 12);
        if (choice <= BRIGHTEST) {
            trial.set(dot, choice);
        } else if (choice == 10) {
            trial.turn();
        } else {
            trial.thin(BY_AREA, 2);
        }
    }

    /** What a row brings, over all orders together: each set of rows may be there when it comes. */
    private int sharedOut(long bright, int row) {
        int high = grid.high();
        int sum = 0;
        for (int there = 0; there < 1 << high; there++) {
            if ((there >> row & 1) == 0) {
                int before = Integer.bitCount(there);
                int orders = factorial(before) * factorial(high - 1 - before);
                int more = partsOfRows(bright, there | 1 << row) - partsOfRows(bright, there);
                sum += orders * more;
            }
        }
        return sum;
    }

    private int partsOfRows(long bright, int rows) {
        return grid.countParts(bright & grid.rows(rows), grid.way());
    }

    /** The weight of all cases with v parts or more: only dots that are bright enough can go. */
    private int fadedOut(long bright, long mayFade, int v, int x) {
        int weight = 0;
        long gone = mayFade;
        for (int step = 0; step < 1 << MOST_SIDE; step++) {
            if (grid.countParts(bright & ~gone, grid.way()) >= v) {
                weight += power(x, Long.bitCount(gone))
                        * power(10 - x, Long.bitCount(mayFade & ~gone));
            }
            if (gone == 0) {
                break;
            }
            gone = gone - 1 & mayFade;
        }
        return weight;
    }

    private static int factorial(int n) {
        int product = 1;
        for (int i = 2; i <= n && i <= MOST_SIDE; i++) {
            product *= i;
        }
        return product;
    }

    private static int power(int base, int times) {
        int product = 1;
        for (int i = 0; i < times && i < MOST_SIDE; i++) {
            product *= base;
        }
        return product;
    }

    private static int fraction(int above, int below, boolean upper) {
        int common = commonDivisor(Math.abs(above), below);
        if (common == 0) {
            return 0;
        }
        return (upper ? above : below) / common;
    }

    private static int commonDivisor(int one, int other) {
        int greater = one;
        int less = other;
        // 64 is far above what Euclid's steps need for numbers of 31 bits
        for (int step = 0; step < 64 && less != 0; step++) {
            int left = greater % less;
            greater = less;
            less = left;
        }
        return greater;
    }

    /** The letters that were written. */
    private static final class Text {
        private static final int MOST_LETTERS = 40;
        private static final int AHEAD_OF_DOTS = 4;

        private final int[] letters = new int[MOST_LETTERS];
        private int size;

        int size() {
            return size;
        }

        void clear() {
            size = 0;
        }

        boolean add(int letter) {
            if (size < 0 || size >= letters.length) {
                return false;
            }
            letters[size] = letter;
            size++;
            return true;
        }

        int figure(int place) {
            return place >= 0 && place < letters.length ? letters[place] - '0' : 0;
        }

        int firstFault() {
            for (int place = 0; place < size; place++) {
                if (!fits(place)) {
                    return place;
                }
            }
            return size >= AHEAD_OF_DOTS && size == wholeSize() ? NONE : size;
        }

        private boolean fits(int place) {
            int figure = figure(place);
            switch (place) {
                case 0:
                    return figure == 'P' - '0';
                case 1:
                    return figure == FOUR || figure == EIGHT;
                case 2:
                case 3:
                    return figure >= 1 && figure <= MOST_SIDE;
                default:
                    return place < wholeSize() && isShade(figure);
            }
        }

        private int wholeSize() {
            return AHEAD_OF_DOTS + figure(2) * figure(3);
        }
    }

    /** Where the dots lie, and which of a set of them hang together. */
    private static final class Grid {
        private int way;
        private int wide;
        private int high;
        private long all;
        private long leftmost;
        private long rightmost;

        Grid() {
            lay(FOUR, 1, 1);
        }

        void lay(int newWay, int newWide, int newHigh) {
            way = newWay;
            wide = newWide;
            high = newHigh;
            all = (1L << wide * high) - 1;
            leftmost = 0;
            for (int row = 0; row < high; row++) {
                leftmost |= 1L << row * wide;
            }
            rightmost = leftmost << wide - 1;
        }

        int way() {
            return way;
        }

        int wide() {
            return wide;
        }

        int high() {
            return high;
        }

        int size() {
            return wide * high;
        }

        long all() {
            return all;
        }

        boolean hasDot(int dot) {
            return dot >= 0 && dot < size();
        }

        boolean hasRow(int row) {
            return row >= 0 && row < high;
        }

        long row(int row) {
            return (1L << wide) - 1 << row * wide;
        }

        long rows(int which) {
            long dots = 0;
            for (int row = 0; row < high; row++) {
                if ((which >> row & 1) != 0) {
                    dots |= row(row);
                }
            }
            return dots;
        }

        // A part hangs together, so it touches every column and row between its ends.

        int columnsOf(long part) {
            int count = 0;
            for (int column = 0; column < wide; column++) {
                if ((part & leftmost << column) != 0) {
                    count++;
                }
            }
            return count;
        }

        int rowsOf(long part) {
            int count = 0;
            for (int row = 0; row < high; row++) {
                if ((part & row(row)) != 0) {
                    count++;
                }
            }
            return count;
        }

        /** What hangs together with the first dots, in a set. */
        long partAround(long set, long first, int byWay) {
            long part = first & set;
            for (int step = 0; step < MOST_DOTS; step++) {
                long wider = spread(part, byWay) & set;
                if (wider == part) {
                    break;
                }
                part = wider;
            }
            return part;
        }

        private long spread(long part, int byWay) {
            long beside = part | (part & ~rightmost) << 1 | (part & ~leftmost) >>> 1;
            long upright = byWay == EIGHT ? beside : part;
            return beside | upright << wide | upright >>> wide;
        }

        boolean joined(long set, int one, int other, int byWay) {
            if (!hasDot(one) || !hasDot(other)) {
                return false;
            }
            return (partAround(set, 1L << one, byWay) & 1L << other) != 0;
        }

        int countParts(long set, int byWay) {
            long rest = set;
            int count = 0;
            while (count < MOST_DOTS && rest != 0) {
                rest &= ~partAround(set, rest & -rest, byWay);
                count++;
            }
            return count;
        }
    }

    /** How bright each dot is: for each t the dots of shade t or more. */
    private static final class Shades {
        private final Grid grid;
        private final long[] layers = new long[STEPS];

        Shades(Grid grid) {
            this.grid = grid;
            darken();
        }

        void darken() {
            for (int t = 0; t < layers.length; t++) {
                layers[t] = t == 0 ? grid.all() : 0;
            }
        }

        long atLeast(int t) {
            return t >= 0 && t < layers.length ? layers[t] : 0;
        }

        int of(int dot) {
            int shade = 0;
            for (int t = 1; t < layers.length; t++) {
                shade += (int) (layers[t] >>> dot & 1);
            }
            return shade;
        }

        int light(long part) {
            int sum = 0;
            for (int t = 1; t < layers.length; t++) {
                sum += Long.bitCount(layers[t] & part);
            }
            return sum;
        }

        int brightest(long part) {
            for (int t = BRIGHTEST; t > 0; t--) {
                if ((atLeast(t) & part) != 0) {
                    return t;
                }
            }
            return 0;
        }

        void set(int dot, int v) {
            long bit = 1L << dot;
            for (int t = 1; t < layers.length; t++) {
                layers[t] = t <= v ? layers[t] | bit : layers[t] & ~bit;
            }
        }

        /** 9 less v is t or more just where v is not 10 less t or more: the layers change in pairs. */
        void turn() {
            for (int t = 1; t <= STEPS / 2; t++) {
                long dark = grid.all() & ~atLeast(t);
                put(t, grid.all() & ~atLeast(STEPS - t));
                put(STEPS - t, dark);
            }
        }

        private void put(int t, long set) {
            if (t >= 0 && t < layers.length) {
                layers[t] = set;
            }
        }

        /** Takes down the parts that are too small; tells how many dots are darker then. */
        int thin(int how, int least) {
            long darker = 0;
            for (int t = 1; t < layers.length; t++) {
                long left = bigParts(layers[t], how, least);
                darker |= layers[t] & ~left;
                layers[t] = left;
            }
            return Long.bitCount(darker);
        }

        /** All dots together stay, however few they are: there is nothing below to stand on. */
        private long bigParts(long set, int how, int least) {
            if (set == grid.all()) {
                return set;
            }
            long big = 0;
            long rest = set;
            for (int i = 0; i < MOST_DOTS && rest != 0; i++) {
                long part = grid.partAround(set, rest & -rest, grid.way());
                if (isBig(part, how, least)) {
                    big |= part;
                }
                rest &= ~part;
            }
            return big;
        }

        private boolean isBig(long part, int how, int least) {
            if (how == BY_AREA) {
                return Long.bitCount(part) >= least;
            }
            return grid.columnsOf(part) >= least || grid.rowsOf(part) >= least;
        }

        void copy(Shades other) {
            if (other != null) {
                other.store(layers, 0);
            }
        }

        void store(long[] row, int from) {
            if (row != null && from >= 0 && from <= row.length - layers.length) {
                System.arraycopy(layers, 0, row, from, layers.length);
            }
        }

        void load(long[] row, int from) {
            if (row != null && from >= 0 && from <= row.length - layers.length) {
                System.arraycopy(row, from, layers, 0, layers.length);
            }
        }
    }

    /** The nodes of a picture, each told by its part and its level. */
    private static final class Tree {
        private final Grid grid;
        private final Shades shades;
        private final long[] nodeParts = new long[MOST_DOTS];
        private final int[] nodeLevels = new int[MOST_DOTS];
        private int size;

        Tree(Grid grid, Shades shades) {
            this.grid = grid;
            this.shades = shades;
        }

        private long partAt(int t, long dots) {
            return grid.partAround(shades.atLeast(t), dots, grid.way());
        }

        private long ofLevel(int level) {
            return shades.atLeast(level) & ~shades.atLeast(level + 1);
        }

        long nodeOf(int dot) {
            return grid.hasDot(dot) ? partAt(shades.of(dot), 1L << dot) : 0;
        }

        int head(long part, int level) {
            long own = part & ofLevel(level);
            return Long.bitCount((own & -own) - 1);
        }

        /** Where the part first grows when it gets darker, a dot of that very shade came to it. */
        int parentLevel(long part, int level) {
            for (int t = level - 1; t >= 0; t--) {
                if (partAt(t, part) != part) {
                    return t;
                }
            }
            return NONE;
        }

        int parentHead(long part, int level) {
            int t = parentLevel(part, level);
            return t == NONE ? NONE : head(partAt(t, part), t);
        }

        /** Inside a node, what is brighter falls into parts, and each of them is a child. */
        int countChildren(long part, int level) {
            return grid.countParts(part & shades.atLeast(level + 1), grid.way());
        }

        int depth(long part, int level) {
            int depth = 0;
            long held = part;
            for (int t = level - 1; t >= 0; t--) {
                long holder = partAt(t, held);
                if (holder != held) {
                    depth++;
                    held = holder;
                }
            }
            return depth;
        }

        int rise(long part, int level) {
            long brighter = shades.atLeast(shades.brightest(part) + 1);
            if (brighter == 0) {
                return NONE;
            }
            for (int t = level - 1; t >= 0; t--) {
                if ((partAt(t, part) & brighter) != 0) {
                    return level - t;
                }
            }
            return NONE;
        }

        /** How many dots come to a node when it gets darker by d. */
        int gain(long part, int level, int d) {
            return Long.bitCount(partAt(Math.max(level - d, 0), part) & ~part);
        }

        boolean isSteady(long part, int level, int d) {
            int gain = gain(part, level, d);
            int area = Long.bitCount(part);
            int above = parentLevel(part, level);
            if (above != NONE) {
                long parent = partAt(above, part);
                if (gain * Long.bitCount(parent) > gain(parent, above, d) * area) {
                    return false;
                }
            }
            long rest = part & shades.atLeast(level + 1);
            for (int i = 0; i < MOST_DOTS && rest != 0; i++) {
                long child = partAt(level + 1, rest & -rest);
                if (gain * Long.bitCount(child) > gain(child, darkest(child), d) * area) {
                    return false;
                }
                rest &= ~child;
            }
            return true;
        }

        private int darkest(long part) {
            for (int t = BRIGHTEST; t > 0; t--) {
                if ((part & ~shades.atLeast(t)) == 0) {
                    return t;
                }
            }
            return 0;
        }

        int countNodes() {
            gather();
            return size;
        }

        int countLeaves() {
            gather();
            int count = 0;
            for (int i = 0; i < size && i < MOST_DOTS; i++) {
                if ((nodeParts[i] & shades.atLeast(nodeLevels[i] + 1)) == 0) {
                    count++;
                }
            }
            return count;
        }

        int greatestDepth() {
            gather();
            int greatest = 0;
            for (int i = 0; i < size && i < MOST_DOTS; i++) {
                greatest = Math.max(greatest, depth(nodeParts[i], nodeLevels[i]));
            }
            return greatest;
        }

        private void gather() {
            size = 0;
            for (int level = BRIGHTEST; level >= 0; level--) {
                long rest = ofLevel(level);
                while (rest != 0 && size >= 0 && size < MOST_DOTS) {
                    long part = partAt(level, rest & -rest);
                    nodeParts[size] = part;
                    nodeLevels[size] = level;
                    size++;
                    rest &= ~part;
                }
            }
        }
    }

    /** What the picture was ahead of each doing. */
    private static final class Doings {
        private static final int MOST_DOINGS = 14;

        private final long[] before = new long[MOST_DOINGS * STEPS];
        private int size;

        int size() {
            return size;
        }

        void clear() {
            size = 0;
        }

        void add(Shades shades) {
            if (shades == null) {
                return;
            }
            if (size >= MOST_DOINGS) {
                System.arraycopy(before, STEPS, before, 0, before.length - STEPS);
                size = MOST_DOINGS - 1;
            }
            shades.store(before, size * STEPS);
            size++;
        }

        boolean takeBack(Shades shades) {
            if (shades == null || size < 1) {
                return false;
            }
            size--;
            shades.load(before, size * STEPS);
            return true;
        }
    }

    /** What is kept to go on from. */
    private static final class Slots {
        private static final int MOST_SLOTS = 2;

        private final long[] kept = new long[MOST_SLOTS * STEPS];
        private final boolean[] used = new boolean[MOST_SLOTS];

        void clear() {
            for (int slot = 0; slot < used.length; slot++) {
                used[slot] = false;
            }
        }

        boolean has(int slot) {
            return slot >= 0 && slot < used.length;
        }

        boolean put(int slot, Shades shades) {
            if (shades == null || slot < 0 || slot >= used.length) {
                return false;
            }
            shades.store(kept, slot * STEPS);
            used[slot] = true;
            return true;
        }

        boolean bringBack(int slot, Shades shades) {
            if (shades == null || slot < 0 || slot >= used.length || !used[slot]) {
                return false;
            }
            shades.load(kept, slot * STEPS);
            return true;
        }
    }

    /** What was seen of two dots each. */
    private static final class Sights {
        private static final int MOST_SIGHTS = 6;

        private final int[] ones = new int[MOST_SIGHTS];
        private final int[] others = new int[MOST_SIGHTS];
        private final boolean[] joined = new boolean[MOST_SIGHTS];
        private int size;

        int size() {
            return size;
        }

        void clear() {
            size = 0;
        }

        boolean add(int one, int other, boolean together) {
            if (size < 0 || size >= MOST_SIGHTS) {
                return false;
            }
            ones[size] = one;
            others[size] = other;
            joined[size] = together;
            size++;
            return true;
        }

        boolean hold(Grid grid, long bright, int way) {
            if (grid == null) {
                return false;
            }
            for (int i = 0; i < size && i < MOST_SIGHTS; i++) {
                if (grid.joined(bright, ones[i], others[i], way) != joined[i]) {
                    return false;
                }
            }
            return true;
        }
    }
}
