/** The boundary cases of promises 20 to 27: what is seen, chances, the seed, slots. */
public final class EdgesOfChancesTest {
    private static final int UNKNOWN = ShadeTree.UNKNOWN;
    private static final int BAD = ShadeTree.BAD;
    private static final int LATE = ShadeTree.LATE;
    private static final int FULL = ShadeTree.FULL;
    private static final int NONE = ShadeTree.NONE;
    private static final int LEAST = Integer.MIN_VALUE;
    private static final int GREATEST = Integer.MAX_VALUE;
    private static final String BOARD = "909090090909".repeat(3);

    private static final Sentences doc = new Sentences();

    public static void main(String[] args) {
        seeRange();
        seeFull();
        unseen();
        waysRange();
        waysLeastAndGreatest();
        waysOfDotsNotThere();
        waysAsItIsNow();
        fadesRange();
        fadesByTenths();
        fadesByParts();
        fadesByShade();
        fadesFractions();
        seedOfAllLongs();
        drawnRange();
        drawnWrapsAround();
        drawnDot();
        drawnDoings();
        drawnTogether();
        drawnChangesNothing();
        keepRange();
        keptShades();
        againRange();
        againWithoutDoings();
        keptIsGone();
        doc.end(20, 27);
    }

    // ---- 20

    private static void seeRange() {
        doc.of(20, "SEEN: how many there are. UNKNOWN: both; BAD: joined (0, 1)");
        ShadeTree x = Pictures.four();
        for (int dot : new int[] {-1, 12, LEAST, GREATEST}) {
            doc.is("see(" + dot + ", 0, 1)", x.see(dot, 0, 1), UNKNOWN);
            doc.is("see(0, " + dot + ", 1)", x.see(0, dot, 1), UNKNOWN);
            doc.is("see(" + dot + ", " + dot + ", 0)", x.see(dot, dot, 0), UNKNOWN);
            doc.is("see(" + dot + ", 11, 2), unknown first", x.see(dot, 11, 2), UNKNOWN);
            doc.is("see(11, " + dot + ", -1), unknown first", x.see(11, dot, -1), UNKNOWN);
        }
        for (int joined : new int[] {-1, 2, LEAST, GREATEST}) {
            doc.is("see(0, 11, " + joined + ")", x.see(0, 11, joined), BAD);
        }
        doc.is("about(8), all refused", x.about(8), 0);
        doc.is("ways(0), all refused", x.ways(0), 20);
        doc.is("see(0, 11, 0)", x.see(0, 11, 0), 1);
        doc.is("see(11, 0, 1)", x.see(11, 0, 1), 2);
        doc.is("see(11, 11, 0)", x.see(11, 11, 0), 3);
        ShadeTree y = Pictures.shown("P466" + BOARD);
        doc.is("see(35, 0, 1) of 36", y.see(35, 0, 1), 1);
        doc.is("see(36, 0, 1) of 36", y.see(36, 0, 1), UNKNOWN);
        doc.is("see(0, 36, 1) of 36", y.see(0, 36, 1), UNKNOWN);
    }

    private static void seeFull() {
        doc.of(20, "FULL: 6.");
        ShadeTree x = Pictures.four();
        for (int count = 1; count <= 6; count++) {
            doc.is("see(0, 1, 1), the same again", x.see(0, 1, 1), count);
        }
        doc.is("see(0, 1, 0), the seventh", x.see(0, 1, 0), FULL);
        doc.is("see(0, 1, 1), the seventh", x.see(0, 1, 1), FULL);
        doc.is("see(0, 1, 2), full: bad first", x.see(0, 1, 2), BAD);
        doc.is("see(0, 1, -1), full: bad first", x.see(0, 1, -1), BAD);
        doc.is("see(12, 1, 1), full: unknown first", x.see(12, 1, 1), UNKNOWN);
        doc.is("see(0, -1, 2), full: unknown first", x.see(0, -1, 2), UNKNOWN);
        doc.is("about(8), full", x.about(8), 6);
        // dots 0 and 1 hang together at 0 .. 5
        doc.is("ways(0): the seventh did not come", x.ways(0), 12);
        doc.of(20, "6 such at most, none at first.");
        for (int last = 0; last <= 1; last++) {
            ShadeTree y = Pictures.four();
            for (int count = 1; count <= 5; count++) {
                y.see(0, 1, 1);
            }
            doc.is("see(0, 1, " + last + "), the sixth", y.see(0, 1, last), 6);
            doc.is("ways(0): the sixth counts", y.ways(0), last == 1 ? 12 : 0);
        }
    }

    // ---- 21

    private static void unseen() {
        doc.of(21, "Nothing is SEEN: how much there was.");
        ShadeTree x = Pictures.four();
        doc.is("unsee() of nothing", x.unsee(), 0);
        x.see(2, 2, 0);
        doc.is("unsee() of one", x.unsee(), 1);
        doc.is("ways(0)", x.ways(0), 20);
        for (int count = 1; count <= 6; count++) {
            x.see(0, 1, count % 2);
        }
        doc.is("unsee() of six", x.unsee(), 6);
        doc.is("about(8)", x.about(8), 0);
        doc.is("ways(0)", x.ways(0), 20);
        doc.is("unsee() once more", x.unsee(), 0);
        for (int count = 1; count <= 6; count++) {
            doc.is("see() behind unsee()", x.see(0, 1, 1), count);
        }
        doc.is("see(), full again", x.see(0, 1, 1), FULL);
        doc.is("ways(0): none of the first six is left", x.ways(0), 12);
    }

    // ---- 22

    private static void waysRange() {
        doc.of(22, "WAYS: how many (what = 0), the first one (1); NONE. BAD.");
        ShadeTree x = new ShadeTree();
        for (int what : new int[] {-1, 2, LEAST, GREATEST}) {
            doc.is("ways(" + what + ")", x.ways(what), BAD);
        }
        doc.is("ways(0)", x.ways(0), 20);
        doc.is("ways(1)", x.ways(1), 4);
        x.see(0, 0, 1);
        x.see(0, 0, 0);
        doc.is("ways(0), it can not be", x.ways(0), 0);
        doc.is("ways(1), it can not be", x.ways(1), NONE);
        doc.is("ways(2), it can not be", x.ways(2), BAD);
    }

    private static ShadeTree sights(String letters, int[][] sights) {
        ShadeTree x = Pictures.shown(letters);
        for (int[] s : sights) {
            x.see(s[0], s[1], s[2]);
        }
        return x;
    }

    private static void ways(String letters, int[][] sights, int count, int first) {
        ShadeTree x = sights(letters, sights);
        doc.is(letters + ", ways(0)", x.ways(0), count);
        doc.is(letters + ", ways(1)", x.ways(1), first);
    }

    private static void waysLeastAndGreatest() {
        doc.of(22, "how many (20 there are); the first one (10 times t, and WAY; the least number);"
                + " NONE.");
        ways("P4110", new int[][] {}, 20, 4);
        ways("P8110", new int[][] {}, 20, 4);
        doc.of(22, "WAYS: t (0 .. 9) and WAY (4, 8)");
        // a dot is in one PART with itself at its SHADE and below
        for (int v = 0; v <= 9; v++) {
            ways("P411" + v, new int[][] {{0, 0, 1}}, 2 * (v + 1), 4);
            ways("P411" + v, new int[][] {{0, 0, 0}}, 18 - 2 * v, v == 9 ? NONE : 10 * v + 14);
        }
        // by corners only, above 8 only: the last of the 20
        ways("P422" + "9809", new int[][] {{0, 3, 1}, {1, 1, 0}}, 1, 98);
        // not by corners, above 8 only
        ways("P422" + "9809", new int[][] {{0, 3, 0}, {3, 3, 1}, {1, 1, 0}}, 1, 94);
        // by corners only, at 1 .. 9
        ways("P422" + "9009", new int[][] {{0, 3, 1}, {1, 1, 0}}, 9, 18);
        ways("P822" + "9009", new int[][] {{0, 3, 1}, {1, 1, 0}}, 9, 18);
        ways("P822" + "9009", new int[][] {{0, 3, 0}}, 9, 14);
        doc.of(22, "SEEN: that at an unknown t, by an unknown WAY, two DOTS were in one PART (1),"
                + " or were not (0)");
        // at 0 .. 4 both are there and joined; at 5, 6 only one is there; above none
        ways("P421" + "64", new int[][] {{0, 1, 1}}, 10, 4);
        ways("P421" + "64", new int[][] {{1, 0, 1}}, 10, 4);
        ways("P421" + "64", new int[][] {{0, 1, 0}}, 10, 54);
        ways("P421" + "64", new int[][] {{0, 1, 0}, {0, 0, 1}}, 4, 54);
        ways("P421" + "64", new int[][] {{0, 1, 0}, {0, 0, 0}}, 6, 74);
        // by the corner they touch by way 8 alone, whichever way the picture has; at 0 by both
        for (String way : new String[] {"P422", "P822"}) {
            ways(way + "9009", new int[][] {{0, 3, 1}}, 11, 4);
            ways(way + "9009", new int[][] {{0, 3, 0}}, 9, 14);
            ways(way + "9009", new int[][] {{0, 3, 0}, {1, 2, 1}}, 0, NONE);
        }
    }

    private static void waysOfDotsNotThere() {
        doc.of(22, "in THE PICTURE as it is now (DOTS that there are not are in no PART)");
        for (int joined = 0; joined <= 1; joined++) {
            int all = joined == 1 ? 0 : 20;
            int first = joined == 1 ? NONE : 4;
            int[][][] sights = {{{5, 5, joined}}, {{0, 5, joined}}, {{5, 0, joined}},
                {{4, 5, joined}}};
            for (int[][] s : sights) {
                // dot 5 of six is the first that there is not in five
                ShadeTree x = sights("P461" + "999999", s);
                doc.is("ways(0), where it is", x.ways(0), 20 - all);
                Pictures.show(x, "P451" + "99999");
                doc.is("ways(0), where it is not", x.ways(0), all);
                doc.is("ways(1), where it is not", x.ways(1), first);
                Pictures.show(x, "P461" + "999999");
                doc.is("ways(0), where it is again", x.ways(0), 20 - all);
            }
        }
        ShadeTree far = sights("P466" + "9".repeat(36), new int[][] {{35, 35, 0}, {35, 0, 0}});
        doc.is("ways(0) of dot 35", far.ways(0), 0);
        Pictures.show(far, "P4119");
        doc.is("ways(0) of dot 35 in a picture of one", far.ways(0), 20);
        doc.is("about(8): they are SEEN all the same", far.about(8), 2);
        doc.is("see(35, 0, 0): but no more are told", far.see(35, 0, 0), UNKNOWN);
    }

    private static void waysAsItIsNow() {
        doc.of(22, "by which all that is SEEN is so, in THE PICTURE as it is now");
        ShadeTree x = sights("P431" + "909", new int[][] {{0, 2, 1}});
        doc.is("ways(0)", x.ways(0), 2);
        x.paint(1, 4);
        doc.is("ways(0), painted", x.ways(0), 10);
        x.undo();
        doc.is("ways(0), undone", x.ways(0), 2);
        x.negative();
        doc.is("ways(0), the negative", x.ways(0), 2);
        x.sift(0, 2);
        doc.is("ways(0), sifted", x.ways(0), 2);
        Pictures.show(x, "P431" + "999");
        doc.is("ways(0), another picture", x.ways(0), 20);
    }

    // ---- 23

    private static void fades(String letters, int row, int t, int v, int x, int above, int below) {
        ShadeTree it = Pictures.shown(letters);
        String call = letters + ", fades(" + row + ", " + t + ", " + v + ", " + x;
        doc.is(call + ", true)", it.fades(row, t, v, x, true), above);
        doc.is(call + ", false)", it.fades(row, t, v, x, false), below);
    }

    private static void fadesRange() {
        doc.of(23, "FADES. UNKNOWN: row; BAD: t, v, x.");
        ShadeTree it = Pictures.four();
        int[][] bad = {{0, 0, 0}, {10, 0, 0}, {-1, 0, 0}, {LEAST, 0, 0}, {GREATEST, 0, 0},
            {1, -1, 0}, {1, 37, 0}, {1, LEAST, 0}, {1, GREATEST, 0},
            {1, 0, -1}, {1, 0, 11}, {1, 0, LEAST}, {1, 0, GREATEST}};
        for (boolean upper : new boolean[] {true, false}) {
            for (int[] b : bad) {
                String with = b[0] + ", " + b[1] + ", " + b[2] + ")";
                doc.is("fades(0, " + with, it.fades(0, b[0], b[1], b[2], upper), BAD);
                doc.is("fades(2, " + with, it.fades(2, b[0], b[1], b[2], upper), BAD);
                doc.is("fades(3, " + with + ", unknown first",
                        it.fades(3, b[0], b[1], b[2], upper), UNKNOWN);
                doc.is("fades(-1, " + with + ", unknown first",
                        it.fades(-1, b[0], b[1], b[2], upper), UNKNOWN);
            }
            for (int row : new int[] {-1, 3, LEAST, GREATEST}) {
                doc.is("fades(" + row + ", 1, 0, 0)", it.fades(row, 1, 0, 0, upper), UNKNOWN);
            }
            // rows are counted, not columns
            ShadeTree wide = Pictures.shown("P461" + "909090");
            doc.is("fades(1, ..) of one row", wide.fades(1, 1, 1, 1, upper), UNKNOWN);
        }
        fades("P416" + "909099", 5, 9, 3, 5, 1, 1);
        fades("P416" + "909099", 4, 9, 3, 0, 1, 1);
    }

    private static void fadesByTenths() {
        doc.of(23, "each DOT of a row gets SHADE 0 by x tenths (0 .. 10), by itself");
        int[][] stays = {{1, 1}, {9, 10}, {4, 5}, {7, 10}, {3, 5}, {1, 2}, {2, 5}, {3, 10}, {1, 5},
            {1, 10}, {0, 1}};
        for (int x = 0; x <= 10; x++) {
            fades("P4119", 0, 9, 1, x, stays[x][0], stays[x][1]);
            fades("P4119", 0, 9, 0, x, 1, 1);
            fades("P4119", 0, 9, 2, x, 0, 1);
        }
        // each by itself: both go by a quarter
        fades("P421" + "99", 0, 9, 1, 5, 3, 4);
        fades("P431" + "999", 0, 9, 2, 5, 1, 8);
        fades("P431" + "999", 0, 9, 2, 0, 0, 1);
        fades("P431" + "999", 0, 9, 2, 10, 0, 1);
        // no dots of other rows
        fades("P412" + "99", 0, 9, 1, 10, 1, 1);
        fades("P412" + "90", 0, 9, 1, 10, 0, 1);
        fades("P412" + "90", 1, 9, 1, 10, 1, 1);
        fades("P413" + "999", 1, 9, 2, 10, 1, 1);
    }

    private static void fadesByParts() {
        doc.of(23, "that there are v PARTS (0 .. 36) or more at t (1 .. 9): a FRACTION.");
        // 18 parts by 4, three of them in the row
        fades("P466" + BOARD, 0, 9, 0, 1, 1, 1);
        fades("P466" + BOARD, 0, 9, 15, 1, 1, 1);
        fades("P466" + BOARD, 0, 9, 16, 1, 999, 1000);
        fades("P466" + BOARD, 5, 9, 17, 1, 243, 250);
        fades("P466" + BOARD, 5, 9, 18, 1, 729, 1000);
        fades("P466" + BOARD, 5, 9, 19, 1, 0, 1);
        fades("P466" + BOARD, 0, 9, 36, 1, 0, 1);
        // by 8 it is one part
        fades("P866" + BOARD, 0, 9, 1, 1, 1, 1);
        fades("P866" + BOARD, 0, 9, 2, 1, 0, 1);
        fades("P4110", 0, 1, 0, 5, 1, 1);
        fades("P4110", 0, 1, 1, 5, 0, 1);
        fades("P4110", 0, 9, 36, 5, 0, 1);
    }

    private static void fadesByShade() {
        doc.of(23, "or more at t (1 .. 9): a FRACTION.");
        for (int v = 0; v <= 9; v++) {
            for (int t = 1; t <= 9; t++) {
                fades("P411" + v, 0, t, 1, 5, t <= v ? 1 : 0, t <= v ? 2 : 1);
            }
        }
    }

    private static void fadesFractions() {
        doc.of(23, "FRACTIONS are told above (upper = true; less than 0, if they are), below, in"
                + " least terms.");
        fades("P461" + "999999", 0, 9, 1, 3, 1000000 - 729, 1000000);
        fades("P461" + "999999", 0, 9, 1, 5, 63, 64);
        fades("P461" + "999999", 0, 9, 1, 9, 468559, 1000000);
        fades("P461" + "999999", 0, 9, 4, 5, 0, 1);
        // 7 of the 64 cases have three parts
        fades("P461" + "999999", 0, 9, 3, 5, 7, 64);
        fades("P461" + "999999", 0, 9, 0, 7, 1, 1);
    }

    // ---- 24

    private static void seedOfAllLongs() {
        doc.of(24, "THE SEED is v: what it was.");
        long[] seeds = {0, 1, -1, Long.MAX_VALUE, Long.MIN_VALUE, 1L << 32, -(1L << 32),
            GREATEST, LEAST, ShadeTree.NONE};
        ShadeTree x = new ShadeTree();
        long was = 0;
        for (long seed : seeds) {
            doc.is("seed(" + seed + ")", x.seed(seed), was);
            was = seed;
        }
        doc.is("seed(0)", x.seed(0), was);
    }

    // ---- 25

    private static void drawnRange() {
        doc.of(25, "DRAWN. BAD: m.");
        ShadeTree x = new ShadeTree();
        x.seed(6);
        for (int m : new int[] {-1, 0, 21, LEAST, GREATEST}) {
            doc.is("drawn(" + m + ")", x.drawn(m), BAD);
        }
        doc.is("seed(6), all refused", x.seed(6), 6);
        doc.of(25, "DRAWN by THE SEED: m times (1 .. 20)");
        for (int m = 1; m <= 20; m++) {
            doc.is("drawn(" + m + ") of one dot", x.drawn(m), m);
        }
        x.seed(0);
        x.drawn(1);
        doc.is("seed(0) behind drawn(1)", x.seed(0), 1442695040888963407L);
        x.drawn(20);
        doc.is("seed(0) behind drawn(20)", x.seed(0), 7571309944655988996L);
        for (int m = 0; m < 20; m++) {
            x.drawn(1);
        }
        doc.is("seed(0) behind drawn(1), 20 times", x.seed(0), 7571309944655988996L);
    }

    private static void drawnWrapsAround() {
        doc.of(25, "becomes x times 6364136223846793005 and 1442695040888963407 (64 bits, wrapping)");
        long[][] steps = {
            {0, 1442695040888963407L},
            {1, 7806831264735756412L},
            // from here on the product is more than 63, than 64 bits
            {2, -4275776585127002199L},
            {3, 2088359638719790806L},
            {-1, -4921441182957829598L},
            {Long.MIN_VALUE, -7780676995965812401L},
            {Long.MAX_VALUE, 4301930853896946210L},
        };
        for (long[] step : steps) {
            ShadeTree x = new ShadeTree();
            x.seed(step[0]);
            doc.is("drawn(1) of one dot", x.drawn(1), 1);
            doc.is("seed behind " + step[0], x.seed(0), step[1]);
        }
    }

    private static void drawn(String letters, long seed, int m, int want) {
        ShadeTree x = Pictures.shown(letters);
        x.seed(seed);
        doc.is(letters + ", seed " + seed + ", drawn(" + m + ")", x.drawn(m), want);
    }

    private static void drawnDot() {
        doc.of(25, "of its upper 31 bits what is left by the number of DOTS is a DOT");
        // upper bits 167951807: dot 35 of 36 becomes 2, as it was or not
        drawn("P466" + "0".repeat(35) + "2", 0, 1, 2);
        drawn("P466" + "2" + "0".repeat(35), 0, 1, 3);
        // upper bits 984000026: dot 2 of 3 becomes 0
        drawn("P431" + "500", 4, 1, 2);
        drawn("P431" + "005", 4, 1, 1);
        // x is less than 0, upper bits 2133017910: dot 0 of 3 becomes 0
        drawn("P431" + "500", 107, 1, 1);
        drawn("P431" + "005", 107, 1, 2);
        // x is less than 0, upper bits 1724882992: dot 1 of 3 becomes 4
        drawn("P431" + "555", 5, 1, 3);
        drawn("P431" + "444", 5, 1, 1);
    }

    private static void drawnDoings() {
        doc.of(25, "that by 64 (down), left by 12: 0 .. 9 it is PAINTED so, 10 it is NEGATIVE, 11"
                + " SIFTED by 2");
        // seed 4: 0; dot 2 of 3
        drawn("P431" + "001", 4, 1, 1);
        drawn("P431" + "111", 4, 1, 2);
        // seed 8: 9; dot 1 of 3
        drawn("P431" + "555", 8, 1, 2);
        drawn("P431" + "909", 8, 1, 1);
        // seed 10: 10; by painting dot 1 there would be one node, or three
        drawn("P431" + "909", 10, 1, 2);
        drawn("P431" + "990", 10, 1, 2);
        drawn("P431" + "545", 10, 1, 2);
        // seed 2: 11; 1 dot is too small, 2 are not
        drawn("P431" + "909", 2, 1, 1);
        drawn("P441" + "9909", 2, 1, 2);
        drawn("P441" + "9990", 2, 1, 2);
        drawn("P431" + "987", 2, 1, 2);
    }

    private static void drawnTogether() {
        doc.of(25, "NODES, each time, together.");
        // seed 0 paints 02, 42, 48, 98, 95, 92, 62, 67, 77: each on what was painted ahead of it
        int together = 0;
        int[] nodes = {2, 2, 2, 2, 2, 2, 2, 2, 1};
        for (int m = 1; m <= 9; m++) {
            together += nodes[m - 1];
            drawn("P421" + "00", 0, m, together);
        }
    }

    private static void drawnChangesNothing() {
        doc.of(25, "(Nothing changes but THE SEED.)");
        ShadeTree x = Pictures.four();
        x.paint(0, 4);
        x.keep(0);
        ShadeTree y = Pictures.four();
        y.paint(0, 4);
        y.keep(0);
        x.drawn(20);
        y.seed(7571309944655988996L);
        doc.same("what is there behind drawn(20)", Probe.of(x), Probe.of(y));
    }

    // ---- 26

    private static void keepRange() {
        doc.of(26, "They are kept: NODES. UNKNOWN.");
        ShadeTree x = Pictures.four();
        for (int slot : new int[] {-1, 2, LEAST, GREATEST}) {
            doc.is("keep(" + slot + ")", x.keep(slot), UNKNOWN);
        }
        doc.is("again(0), all refused", x.again(0), LATE);
        doc.is("again(1), all refused", x.again(1), LATE);
        doc.is("keep(0)", x.keep(0), 6);
        doc.is("again(1): the other one is empty", x.again(1), LATE);
        doc.is("keep(1)", x.keep(1), 6);
        doc.is("keep(0) of one dot", new ShadeTree().keep(0), 1);
        ShadeTree y = new ShadeTree();
        doc.is("keep(1) of one dot", y.keep(1), 1);
        doc.is("again(0): the other one is empty", y.again(0), LATE);
        doc.is("again(1)", y.again(1), 1);
    }

    private static void keptShades() {
        doc.of(26, "SLOTS 0 .. 1 keep SHADES");
        String zero = "0123456789".repeat(4).substring(0, 36);
        ShadeTree x = Pictures.shown("P466" + zero);
        x.keep(0);
        x.negative();
        x.keep(1);
        doc.is("about(7): keep() is no doing, and forgets none", x.about(7), 1);
        x.sift(0, 36);
        x.again(0);
        doc.shades("slot 0", x, zero);
        x.again(1);
        doc.shades("slot 1", x, "9876543210".repeat(4).substring(0, 36));
        x.paint(35, 9);
        x.keep(0);
        doc.is("again(1)", x.again(1), x.about(3));
        doc.is("slot 1 is not painted", x.shade(35), 4);
        x.again(0);
        doc.is("slot 0 is kept anew", x.shade(35), 9);
        doc.is("the rest of slot 0", x.shade(0), 9);
    }

    // ---- 27

    private static void againRange() {
        doc.of(27, "They are as they were kept: NODES. UNKNOWN; LATE: none were kept.");
        ShadeTree x = Pictures.four();
        x.paint(0, 9);
        doc.is("again(0), none kept", x.again(0), LATE);
        doc.is("again(1), none kept", x.again(1), LATE);
        for (int slot : new int[] {-1, 2, LEAST, GREATEST}) {
            doc.is("again(" + slot + "), none kept", x.again(slot), UNKNOWN);
        }
        doc.is("about(7), all refused", x.about(7), 1);
        x.keep(1);
        for (int slot : new int[] {-1, 2, LEAST, GREATEST}) {
            doc.is("again(" + slot + ")", x.again(slot), UNKNOWN);
        }
        doc.is("again(0)", x.again(0), LATE);
        doc.is("about(7), all refused", x.about(7), 1);
        x.sift(0, 36);
        doc.is("again(1)", x.again(1), 7);
        doc.shades("as kept", x, "950901113070");
        doc.is("again(1) once more", x.again(1), 7);
    }

    private static void againWithoutDoings() {
        doc.of(27, "(no DOINGS when one goes on)");
        ShadeTree x = Pictures.four();
        for (int i = 0; i < 14; i++) {
            x.paint(0, i % 9);
        }
        x.keep(0);
        doc.is("about(7), full", x.about(7), 14);
        x.see(0, 1, 1);
        x.seed(8);
        x.again(0);
        doc.is("about(7)", x.about(7), 0);
        doc.is("undo()", x.undo(), LATE);
        doc.is("about(8): what is SEEN stays", x.about(8), 1);
        doc.is("seed(0): THE SEED stays", x.seed(0), 8);
        doc.is("about(9): THE TEXT stays", x.about(9), 16);
        x.paint(0, 9);
        doc.is("undo() of a doing since", x.undo(), 0);
        doc.is("shade(0)", x.shade(0), 4);
    }

    private static void keptIsGone() {
        doc.of(27, "what was kept is gone");
        ShadeTree x = Pictures.four();
        x.keep(0);
        x.keep(1);
        Pictures.tell(x, "P4");
        doc.is("picture() with a fault", x.picture(), LATE);
        doc.is("again(0): it is still kept", x.again(0), 6);
        doc.is("again(1): it is still kept", x.again(1), 6);
        Pictures.show(x, "P443" + Pictures.FIGURES);
        doc.is("again(0) behind picture()", x.again(0), LATE);
        doc.is("again(1) behind picture()", x.again(1), LATE);
        doc.is("keep(0) behind picture()", x.keep(0), 6);
        doc.is("again(0) behind keep()", x.again(0), 6);
        doc.is("again(1) behind keep()", x.again(1), LATE);
    }
}
