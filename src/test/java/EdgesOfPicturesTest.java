/** The boundary cases of promises 1 to 10: texts, faults, pictures, and what is told of them. */
public final class EdgesOfPicturesTest {
    private static final int UNKNOWN = ShadeTree.UNKNOWN;
    private static final int BAD = ShadeTree.BAD;
    private static final int LATE = ShadeTree.LATE;
    private static final int FULL = ShadeTree.FULL;
    private static final int NONE = ShadeTree.NONE;
    private static final int LEAST = Integer.MIN_VALUE;
    private static final int GREATEST = Integer.MAX_VALUE;
    /** 36 dots, the last one of shade 5 among brighter ones. */
    private static final String LARGEST = "P466" + "9".repeat(35) + "5";

    private static final Sentences doc = new Sentences();

    public static void main(String[] args) {
        aNewObject();
        lettersTaken();
        lettersFull();
        wiped();
        faultOfEmptyAndShort();
        faultOfTooLong();
        faultByLetter();
        faultOfTheFirst();
        sidesAndShades();
        orderOfDots();
        otherSides();
        pictureTaken();
        pictureForgets();
        pictureRefused();
        aboutRange();
        aboutLeastAndGreatest();
        shadeOfDots();
        nodeRange();
        nodeHead();
        nodeParent();
        nodeBox();
        nodeRise();
        dotsAsBits();
        partsRange();
        partsLeastAndGreatest();
        doc.end(1, 10);
    }

    private static String figures(int count) {
        return "0123456789".repeat(4).substring(0, count);
    }

    // ---- 1

    private static void aNewObject() {
        doc.of(1, "One dark dot.");
        ShadeTree x = new ShadeTree();
        doc.is("about(1)", x.about(1), 1);
        doc.is("about(2)", x.about(2), 1);
        doc.is("shade(0)", x.shade(0), 0);
        doc.is("shade(1)", x.shade(1), UNKNOWN);
        doc.is("parts(0)", x.parts(0), 1);
        doc.is("parts(1)", x.parts(1), 0);
        doc.of(1, "At first there is one DOT, SHADE 0, WAY 4.");
        doc.is("about(0)", x.about(0), 4);
        doc.is("about(3)", x.about(3), 1);
        doc.is("about(7)", x.about(7), 0);
        doc.is("about(9)", x.about(9), 0);
        doc.is("undo()", x.undo(), LATE);
        doc.of(1, "6 such at most, none at first.");
        doc.is("about(8)", x.about(8), 0);
        doc.is("ways(0)", x.ways(0), 20);
        doc.of(1, "(THE SEED, a long; 0 at first)");
        doc.is("seed(0)", x.seed(0), 0);
        doc.of(1, "SLOTS 0 .. 1 keep SHADES");
        doc.is("again(0)", x.again(0), LATE);
        doc.is("again(1)", x.again(1), LATE);
        doc.of(1, "An object is used for at most 512 calls after it has been made");
        ShadeTree y = new ShadeTree();
        for (int call = 1; call <= 511; call++) {
            doc.is("call " + call + ", negative()", y.negative(), 1);
        }
        doc.is("call 512, shade(0)", y.shade(0), 9);
    }

    // ---- 2

    private static void lettersTaken() {
        doc.of(2, "A letter (0 .. 255) comes behind THE TEXT: how long it is. BAD");
        ShadeTree x = new ShadeTree();
        doc.is("write(-1)", x.write(-1), BAD);
        doc.is("write(256)", x.write(256), BAD);
        doc.is("write(256 + 'P')", x.write(256 + 'P'), BAD);
        doc.is("write('P' - 256)", x.write('P' - 256), BAD);
        doc.is("write(least)", x.write(LEAST), BAD);
        doc.is("write(greatest)", x.write(GREATEST), BAD);
        doc.is("about(9), all refused", x.about(9), 0);
        doc.is("write(0)", x.write(0), 1);
        doc.is("write(255)", x.write(255), 2);
        doc.is("about(9)", x.about(9), 2);
    }

    private static void lettersFull() {
        doc.of(2, "FULL: there are 40.");
        ShadeTree x = new ShadeTree();
        for (int size = 1; size <= 40; size++) {
            doc.is("write() of letter " + size, x.write(LARGEST.charAt(size - 1)), size);
        }
        doc.is("write('0') as letter 41", x.write('0'), FULL);
        doc.is("about(9), full", x.about(9), 40);
        doc.is("fault(), full: letter 41 did not come", x.fault(), NONE);
        doc.is("wipe(), full", x.wipe(), 40);
        doc.is("write('P') behind wipe()", x.write('P'), 1);
        doc.of(2, "THE TEXT is letters (40 at most).");
        ShadeTree y = Pictures.told(LARGEST);
        doc.is("about(9) of 36 dots", y.about(9), 40);
        doc.is("picture() of 36 dots", y.picture(), 2);
    }

    // ---- 3

    private static void wiped() {
        doc.of(3, "THE TEXT is empty: how long it was.");
        ShadeTree x = new ShadeTree();
        doc.is("wipe() of nothing", x.wipe(), 0);
        x.write('P');
        doc.is("wipe() of one letter", x.wipe(), 1);
        doc.is("about(9)", x.about(9), 0);
        doc.is("fault()", x.fault(), 0);
        ShadeTree y = Pictures.told(LARGEST);
        doc.is("wipe() of 40 letters", y.wipe(), 40);
        doc.is("wipe() once more", y.wipe(), 0);
        for (int size = 1; size <= 40; size++) {
            doc.is("write() behind wipe()", y.write('0'), size);
        }
        ShadeTree z = Pictures.four();
        z.wipe();
        doc.shades("the picture behind wipe()", z, Pictures.FIGURES);
    }

    // ---- 4

    private static void faultOfEmptyAndShort() {
        doc.of(4, "its length, if it is only not at its end");
        doc.is("fault() of the empty text", new ShadeTree().fault(), 0);
        for (String whole : new String[] {"P4110", "P8119", "P416012345", LARGEST}) {
            for (int size = 0; size < whole.length(); size++) {
                doc.is("fault() of " + size + " letters of " + whole,
                        Pictures.told(whole.substring(0, size)).fault(), size);
            }
        }
        doc.of(4, "NONE: none. At first there is one DOT");
        doc.is("fault() of P4110", Pictures.told("P4110").fault(), NONE);
        doc.is("fault() of 36 dots", Pictures.told(LARGEST).fault(), NONE);
    }

    private static void faultOfTooLong() {
        doc.of(4, "then as many figures as there are DOTS.");
        for (int w = 1; w <= 6; w++) {
            for (int h = 1; h <= 6; h++) {
                String ahead = "P4" + w + h;
                int size = w * h;
                doc.is("fault() of " + ahead + ", all figures",
                        Pictures.told(ahead + figures(size)).fault(), NONE);
                doc.is("fault() of " + ahead + ", one figure short",
                        Pictures.told(ahead + figures(size - 1)).fault(), 3 + size);
                if (size < 36) {
                    doc.is("fault() of " + ahead + ", one figure too many",
                            Pictures.told(ahead + figures(size + 1)).fault(), 4 + size);
                    doc.is("fault() of " + ahead + " and figures up to 40 letters",
                            Pictures.told(ahead + figures(36)).fault(), 4 + size);
                }
            }
        }
    }

    /** Every letter at every kind of place, alone at the end and with others behind it. */
    private static void faultByLetter() {
        doc.of(4, "A PICTURE is a TEXT: P, WAY (4 or 8), w, h, then as many figures");
        String[] ahead = {"", "P", "P4", "P44", "P42105"};
        String[] fits = {"P", "48", "123456", "123456", ""};
        for (int i = 0; i < ahead.length; i++) {
            for (int letter = 0; letter <= 255; letter++) {
                askLetter(ahead[i], fits[i], (char) letter);
            }
        }
        for (int letter = 0; letter <= 255; letter++) {
            askLetter("P422", "0123456789", (char) letter);
            askLetter("P422000", "0123456789", (char) letter);
        }
    }

    private static void askLetter(String ahead, String fits, char letter) {
        int place = ahead.length();
        boolean fit = fits.indexOf(letter) >= 0;
        String what = "fault() of " + ahead + " and letter " + (int) letter;
        ShadeTree x = Pictures.told(ahead + letter);
        boolean whole = fit && place == 7;
        doc.is(what, x.fault(), whole ? NONE : fit ? place + 1 : place);
        if (!fit) {
            doc.is(what + ", with figures behind",
                    Pictures.told(ahead + letter + "1111").fault(), place);
        }
    }

    private static void faultOfTheFirst() {
        doc.of(4, "the place of the first letter by which THE TEXT can be no PICTURE, whatever came"
                + " behind it (its length set aside)");
        doc.is("fault() of x, y", Pictures.told("xy").fault(), 0);
        doc.is("fault() of a wrong WAY and a wrong w", Pictures.told("P57").fault(), 1);
        doc.is("fault() of a wrong w and a wrong h", Pictures.told("P407").fault(), 2);
        doc.is("fault() of a wrong h and a wrong figure", Pictures.told("P410x").fault(), 3);
        doc.is("fault() of two wrong figures", Pictures.told("P4220x0x").fault(), 5);
        doc.is("fault() of a wrong figure in a text too short", Pictures.told("P422x").fault(), 4);
        doc.is("fault() of a wrong figure in a text too long",
                Pictures.told("P42200x00").fault(), 6);
        doc.is("fault() of the last figure", Pictures.told("P422000x").fault(), 7);
        doc.is("fault() of letter 40", Pictures.told(LARGEST.substring(0, 39) + "x").fault(), 39);
        doc.is("fault() of 40 wrong letters", Pictures.told("x".repeat(40)).fault(), 0);
        doc.of(4, "FAULT; NONE.");
        ShadeTree x = Pictures.told(LARGEST);
        Pictures.tell(x, "P4");
        doc.is("fault() of a text over a longer one", x.fault(), 2);
        x.write('1');
        x.write('1');
        x.write('7');
        doc.is("fault() of it, whole", x.fault(), NONE);
        doc.is("fault() asked again", x.fault(), NONE);
        doc.is("about(9) behind fault()", x.about(9), 5);
    }

    // ---- 5

    private static void sidesAndShades() {
        doc.of(5, "A PICTURE is w wide, h high (1 ..");
        for (int w = 1; w <= 6; w++) {
            for (int h = 1; h <= 6; h++) {
                ShadeTree x = Pictures.told("P8" + w + h + figures(w * h));
                doc.so("picture() of " + w + " by " + h, x.picture() >= 1);
                doc.is("about(0)", x.about(0), 8);
                doc.is("about(1)", x.about(1), w);
                doc.is("about(2)", x.about(2), h);
                doc.shades("its shades", x, figures(w * h));
            }
        }
        doc.of(5, "6 each), of DOTS 0, 1, ..");
        doc.is("picture() of 0 by 1", Pictures.told("P401").picture(), LATE);
        doc.is("picture() of 1 by 0", Pictures.told("P410").picture(), LATE);
        doc.is("picture() of 7 by 1", Pictures.told("P4710000000").picture(), LATE);
        doc.is("picture() of 1 by 7", Pictures.told("P4170000000").picture(), LATE);
        doc.of(5, "each of a SHADE (0 dark .. 9 bright).");
        doc.is("picture() of '0' - 1", Pictures.told("P411/").picture(), LATE);
        doc.is("picture() of '9' + 1", Pictures.told("P411:").picture(), LATE);
        for (int v = 0; v <= 9; v++) {
            ShadeTree x = Pictures.told("P411" + v);
            doc.is("picture() of a dot of " + v, x.picture(), 1);
            doc.is("its shade", x.shade(0), v);
            doc.is("its parts at " + v, x.parts(v), 1);
        }
    }

    private static void orderOfDots() {
        doc.of(5, "(row by row, from the left)");
        ShadeTree x = Pictures.shown("P432" + "123456");
        doc.shades("the dots", x, "123456");
        // 4 lies below 1, 5 below 2, 6 below 3
        doc.is("pass(2, 5): 3 and 6", x.pass(2, 5), 3);
        doc.is("pass(0, 3): 1 and 4", x.pass(0, 3), 1);
        doc.is("pass(2, 3): the way from 3 to 4 is over 5 and 6", x.pass(2, 3), 3);
        doc.of(5, "those beside, above, below it (WAY 4); those at its corners, too (WAY 8).");
        // around dot 4 of nine: each of the others with it, at 9
        int[] beside = {1, 3, 5, 7};
        int[] corners = {0, 2, 6, 8};
        for (int dot : beside) {
            doc.is("by 4: dot 4 and dot " + dot, pair("P433", 9, 4, dot).parts(9), 1);
            doc.is("by 8: dot 4 and dot " + dot, pair("P833", 9, 4, dot).parts(9), 1);
        }
        for (int dot : corners) {
            doc.is("by 4: dot 4 and dot " + dot, pair("P433", 9, 4, dot).parts(9), 2);
            doc.is("by 8: dot 4 and dot " + dot, pair("P833", 9, 4, dot).parts(9), 1);
        }
        // the end of a row, the beginning of the next one; the first row, the last one
        int[][] apart = {{2, 3}, {5, 6}, {2, 6}, {0, 5}, {3, 8}, {0, 8}, {1, 7}, {0, 2}};
        for (int[] two : apart) {
            doc.is("by 8: dot " + two[0] + " and dot " + two[1],
                    pair("P833", 9, two[0], two[1]).parts(9), 2);
            doc.is("by 4: dot " + two[0] + " and dot " + two[1],
                    pair("P433", 9, two[0], two[1]).parts(9), 2);
        }
        doc.is("by 8: the ends of 36", pair("P866", 36, 0, 35).parts(9), 2);
        doc.is("by 8: dot 29 and dot 30 of 36", pair("P866", 36, 29, 30).parts(9), 2);
        doc.is("by 8: dot 28 and dot 35 of 36", pair("P866", 36, 28, 35).parts(9), 1);
        doc.is("by 4: dot 29 and dot 35 of 36", pair("P466", 36, 29, 35).parts(9), 1);
    }

    private static ShadeTree pair(String ahead, int size, int one, int other) {
        StringBuilder dots = new StringBuilder("0".repeat(size));
        dots.setCharAt(one, '9');
        dots.setCharAt(other, '9');
        return Pictures.shown(ahead + dots);
    }

    /** Nothing of the sides of the picture ahead is left. */
    private static void otherSides() {
        doc.of(5, "A PICTURE is w wide, h high (1 ..");
        int[][] sides = {{3, 6}, {6, 1}, {2, 5}, {6, 6}, {1, 6}, {5, 2}, {1, 1}, {4, 3}};
        ShadeTree x = new ShadeTree();
        for (int[] side : sides) {
            int size = side[0] * side[1];
            String of = side[0] + " by " + side[1];
            Pictures.show(x, "P4" + side[0] + side[1] + "9".repeat(size));
            doc.is(of + ", pass() from the last dot", x.pass(size - 1, 0), 9);
            doc.is(of + ", pass() to the last dot", x.pass(0, size - 1), 9);
            doc.is(of + ", columns", x.node(0, 7), side[0]);
            doc.is(of + ", rows", x.node(0, 8), side[1]);
            doc.is(of + ", its dots", x.dots(0), (1L << size) - 1);
            doc.is(of + ", one dot more", x.shade(size), UNKNOWN);
        }
    }

    private static void pictureTaken() {
        doc.of(5, "how many NODES");
        doc.is("picture() of one dot", Pictures.told("P4115").picture(), 1);
        doc.is("picture() of 36 dots of one shade",
                Pictures.told("P466" + "4".repeat(36)).picture(), 1);
        doc.is("picture() of ten shades", Pictures.told("P4520123456789").picture(), 10);
        doc.is("picture() of 18 dots and one part below",
                Pictures.told("P466" + "909090090909".repeat(3)).picture(), 19);
        doc.of(5, "THE TEXT is THE PICTURE");
        ShadeTree x = Pictures.told("P42137");
        doc.is("picture()", x.picture(), 2);
        doc.is("about(9): the text stays", x.about(9), 6);
        x.paint(0, 9);
        doc.is("picture() once more", x.picture(), 2);
        doc.shades("it is as told", x, "37");
        x.write('0');
        doc.is("picture() of one letter more", x.picture(), LATE);
        doc.shades("a refused one", x, "37");
    }

    private static void pictureForgets() {
        doc.of(5, "(no DOINGS; what was kept is gone; SEEN, THE SEED stay)");
        ShadeTree x = Pictures.four();
        x.keep(0);
        x.keep(1);
        x.see(0, 11, 0);
        x.see(3, 3, 1);
        x.seed(-5);
        for (int i = 0; i < 14; i++) {
            x.negative();
        }
        Pictures.tell(x, "P46155055" + "5");
        doc.is("picture()", x.picture(), 3);
        doc.is("about(7)", x.about(7), 0);
        doc.is("undo()", x.undo(), LATE);
        doc.is("again(0)", x.again(0), LATE);
        doc.is("again(1)", x.again(1), LATE);
        doc.is("about(8)", x.about(8), 2);
        // dot 11 is gone, so it hangs together with none; dot 3 is there at 0 .. 5
        doc.is("ways(0)", x.ways(0), 12);
        doc.is("seed(0)", x.seed(0), -5);
        doc.is("keep(1) in the new picture", x.keep(1), 3);
        doc.is("again(0) in the new picture", x.again(0), LATE);
        doc.is("again(1) in the new picture", x.again(1), 3);
        x.negative();
        x.keep(0);
        x.picture();
        doc.is("about(7), the same picture once more", x.about(7), 0);
        doc.is("again(0), the same picture once more", x.again(0), LATE);
        doc.is("again(1), the same picture once more", x.again(1), LATE);
    }

    private static void pictureRefused() {
        doc.of(5, "LATE: a FAULT.");
        String[] faulty = {"", "P", "P4", "P41", "P411", "P41100", "x", "P5110", "P4010", "P4100",
            "P411x", "P466" + "0".repeat(35), "P455" + "0".repeat(26), "x".repeat(40)};
        for (String letters : faulty) {
            ShadeTree x = busy(letters);
            doc.is("picture() of '" + letters + "'", x.picture(), LATE);
            doc.same("what is there behind it", Probe.of(x), Probe.of(busy(letters)));
        }
    }

    private static ShadeTree busy(String letters) {
        ShadeTree x = Pictures.shown("P832" + "123459");
        x.keep(0);
        x.paint(0, 7);
        x.keep(1);
        x.negative();
        x.see(0, 5, 1);
        x.seed(99);
        Pictures.tell(x, letters);
        return x;
    }

    // ---- 6

    private static void aboutRange() {
        doc.of(6, "WAY (what = 0), w (1), h (2), NODES (3), such without CHILDREN (4), the greatest"
                + " DEPTH (5), LIGHT of all DOTS (6), DOINGS (7), SEEN (8), letters of THE TEXT (9)."
                + " BAD.");
        ShadeTree x = Pictures.shown("P832" + "919222");
        x.paint(0, 9);
        x.see(0, 0, 1);
        x.see(0, 1, 0);
        int[] want = {8, 3, 2, 4, 2, 2, 25, 1, 2, 10};
        for (int what = 0; what <= 9; what++) {
            doc.is("about(" + what + ")", x.about(what), want[what]);
        }
        for (int what : new int[] {-1, 10, LEAST, GREATEST}) {
            doc.is("about(" + what + ")", x.about(what), BAD);
        }
    }

    private static void aboutLeastAndGreatest() {
        doc.of(6, "CHILDREN: those whose PARENT it is.");
        doc.is("about(4) of one dot", new ShadeTree().about(4), 1);
        doc.is("about(4) of a board by 4",
                Pictures.shown("P466" + "909090090909".repeat(3)).about(4), 18);
        doc.is("about(4) of a grid by 8",
                Pictures.shown("P866" + "909090000000".repeat(3)).about(4), 9);
        doc.is("about(4) of ten steps, one above the other",
                Pictures.shown("P4520123456789").about(4), 1);
        doc.of(6, "DEPTH: how many NODES hold it, other than it.");
        doc.is("about(5) of one dot", new ShadeTree().about(5), 0);
        doc.is("about(5) of ten shades", Pictures.shown("P4520123456789").about(5), 9);
        ShadeTree flat = Pictures.shown("P4520123456789");
        flat.sift(0, 36);
        doc.is("about(5), sifted to one NODE", flat.about(5), 0);
        flat.undo();
        doc.is("about(5), undone", flat.about(5), 9);
        flat.sift(0, 36);
        flat.paint(9, 9);
        doc.is("about(5), one dot painted", flat.about(5), 1);
        doc.of(6, "LIGHT: their SHADES together");
        doc.is("about(6) of the dark", Pictures.shown("P466" + "0".repeat(36)).about(6), 0);
        doc.is("about(6) of the brightest", Pictures.shown("P466" + "9".repeat(36)).about(6), 324);
        doc.of(6, "are a row (14 at most; when it is full, the first one is forgotten)");
        ShadeTree x = new ShadeTree();
        for (int count = 1; count <= 16; count++) {
            x.negative();
            doc.is("about(7), " + count + " done", x.about(7), Math.min(count, 14));
        }
        doc.of(6, "6 such at most, none at first.");
        for (int count = 1; count <= 8; count++) {
            x.see(0, 0, 1);
            doc.is("about(8), " + count + " told", x.about(8), Math.min(count, 6));
        }
        doc.of(6, "THE TEXT is letters (40 at most).");
        for (int count = 1; count <= 42; count++) {
            x.write('P');
            doc.is("about(9), " + count + " written", x.about(9), Math.min(count, 40));
        }
    }

    // ---- 7

    private static void shadeOfDots() {
        doc.of(7, "SHADE of a DOT. UNKNOWN.");
        ShadeTree x = new ShadeTree();
        doc.is("shade(0) of one dot", x.shade(0), 0);
        doc.is("shade(1) of one dot", x.shade(1), UNKNOWN);
        doc.is("shade(-1) of one dot", x.shade(-1), UNKNOWN);
        Pictures.show(x, LARGEST);
        doc.is("shade(0) of 36", x.shade(0), 9);
        doc.is("shade(35) of 36", x.shade(35), 5);
        doc.is("shade(36) of 36", x.shade(36), UNKNOWN);
        doc.is("shade(64) of 36", x.shade(64), UNKNOWN);
        doc.is("shade(-1) of 36", x.shade(-1), UNKNOWN);
        doc.is("shade(least)", x.shade(LEAST), UNKNOWN);
        doc.is("shade(greatest)", x.shade(GREATEST), UNKNOWN);
        Pictures.show(x, "P432" + "987654");
        doc.is("shade(5) of 6, where there were 36", x.shade(5), 4);
        doc.is("shade(6) of 6, where there were 36", x.shade(6), UNKNOWN);
        doc.is("shade(35) of 6, where there were 36", x.shade(35), UNKNOWN);
    }

    // ---- 8

    private static void nodeRange() {
        doc.of(8, "THE NODE of a DOT: its HEAD (what = 0), LEVEL (1), AREA (2), LIGHT (3), HEAD of"
                + " its PARENT (4; NONE), CHILDREN (5), DEPTH (6), columns of its BOX (7), rows (8),"
                + " RISE (9; NONE).");
        ShadeTree x = Pictures.four();
        int[] want = {0, 5, 2, 10, 5, 0, 2, 2, 1, 4};
        for (int what = 0; what <= 9; what++) {
            doc.is("node(1, " + what + ")", x.node(1, what), want[what]);
        }
        doc.of(8, "UNKNOWN; BAD.");
        for (int what : new int[] {-1, 10, LEAST, GREATEST}) {
            doc.is("node(0, " + what + ")", x.node(0, what), BAD);
            doc.is("node(11, " + what + ")", x.node(11, what), BAD);
            doc.is("node(12, " + what + "), unknown first", x.node(12, what), UNKNOWN);
            doc.is("node(-1, " + what + "), unknown first", x.node(-1, what), UNKNOWN);
        }
        for (int what = 0; what <= 9; what++) {
            doc.is("node(-1, " + what + ")", x.node(-1, what), UNKNOWN);
            doc.is("node(12, " + what + ")", x.node(12, what), UNKNOWN);
            doc.is("node(least, " + what + ")", x.node(LEAST, what), UNKNOWN);
            doc.is("node(greatest, " + what + ")", x.node(GREATEST, what), UNKNOWN);
        }
        ShadeTree y = Pictures.shown(LARGEST);
        doc.is("node(35, 1) of 36", y.node(35, 1), 5);
        doc.is("node(36, 1) of 36", y.node(36, 1), UNKNOWN);
    }

    private static void nodeHead() {
        doc.of(8, "It is told by its HEAD: the least DOT of that SHADE in it.");
        doc.is("node(1, 0): dot 0 is brighter", Pictures.shown("P42195").node(1, 0), 1);
        doc.is("node(2, 0): dot 0 is of that shade", Pictures.shown("P431595").node(2, 0), 0);
        doc.is("node(2, 0): dot 0 is not in it", Pictures.shown("P431505").node(2, 0), 2);
        doc.is("node(35, 0) of 36", Pictures.shown(LARGEST).node(35, 0), 35);
        doc.is("node(34, 0) of 36", Pictures.shown(LARGEST).node(34, 0), 0);
        doc.of(8, "LEVEL: that SHADE (the least in it).");
        for (int v = 0; v <= 9; v++) {
            doc.is("node(0, 1) of a dot of " + v, Pictures.shown("P411" + v).node(0, 1), v);
        }
        doc.of(8, "AREA: how many DOTS");
        doc.is("node(0, 2) of one dot", new ShadeTree().node(0, 2), 1);
        doc.is("node(35, 2) of all 36", Pictures.shown(LARGEST).node(35, 2), 36);
        doc.is("node(0, 2), all but one", Pictures.shown(LARGEST).node(0, 2), 35);
        doc.of(8, "LIGHT: their SHADES together");
        doc.is("node(0, 3) of the dark", new ShadeTree().node(0, 3), 0);
        doc.is("node(35, 3) of 36", Pictures.shown(LARGEST).node(35, 3), 320);
        doc.is("node(0, 3) of 36", Pictures.shown(LARGEST).node(0, 3), 315);
    }

    private static void nodeParent() {
        doc.of(8, "of all NODES that hold it, other than it, that of fewest DOTS (its LEVEL is"
                + " less); NONE: all DOTS.");
        doc.is("node(0, 4) of one dot", new ShadeTree().node(0, 4), NONE);
        doc.is("node(0, 4) of one bright dot", Pictures.shown("P4119").node(0, 4), NONE);
        doc.is("node(0, 4) of all dots, none dark", Pictures.shown("P421" + "34").node(0, 4), NONE);
        doc.is("node(1, 4): all dots hold it", Pictures.shown("P421" + "34").node(1, 4), 0);
        ShadeTree steps = Pictures.shown("P4520123456789");
        doc.is("node(0, 4) of ten steps", steps.node(0, 4), NONE);
        for (int dot = 1; dot <= 9; dot++) {
            doc.is("node(" + dot + ", 4) of ten steps", steps.node(dot, 4), dot - 1);
        }
        doc.is("node(0, 4) over a gap of shades", Pictures.shown("P421" + "90").node(0, 4), 1);
        doc.of(8, "CHILDREN: those whose PARENT it is.");
        doc.is("node(0, 5) of one dot", new ShadeTree().node(0, 5), 0);
        doc.is("node(0, 5): not those of its child", steps.node(0, 5), 1);
        doc.is("node(9, 5) of the brightest", steps.node(9, 5), 0);
        doc.is("node(0, 5): one shade above", Pictures.shown("P42101").node(0, 5), 1);
        doc.is("node(0, 5): two parts in one child", Pictures.shown("P4410212").node(0, 5), 1);
        doc.is("node(1, 5) of a board",
                Pictures.shown("P466" + "909090090909".repeat(3)).node(1, 5), 18);
        doc.of(8, "DEPTH: how many NODES hold it, other than it.");
        for (int dot = 0; dot <= 9; dot++) {
            doc.is("node(" + dot + ", 6) of ten steps", steps.node(dot, 6), dot);
        }
    }

    private static void nodeBox() {
        doc.of(8, "BOX: how many columns, how many rows it touches, with those between.");
        doc.is("node(0, 7) of one dot", new ShadeTree().node(0, 7), 1);
        doc.is("node(0, 8) of one dot", new ShadeTree().node(0, 8), 1);
        for (int side = 1; side <= 6; side++) {
            ShadeTree wide = Pictures.shown("P4" + side + "1" + "5".repeat(side));
            doc.is("node(0, 7) of " + side + " by 1", wide.node(0, 7), side);
            doc.is("node(0, 8) of " + side + " by 1", wide.node(0, 8), 1);
            ShadeTree high = Pictures.shown("P41" + side + "5".repeat(side));
            doc.is("node(0, 7) of 1 by " + side, high.node(0, 7), 1);
            doc.is("node(0, 8) of 1 by " + side, high.node(0, 8), side);
        }
        String slope = "9000000900000090000009000000900000" + "09";
        doc.is("by 8: node(0, 7) of a slope", Pictures.shown("P866" + slope).node(0, 7), 6);
        doc.is("by 8: node(0, 8) of a slope", Pictures.shown("P866" + slope).node(0, 8), 6);
        doc.is("by 4: node(35, 7) of a slope", Pictures.shown("P466" + slope).node(35, 7), 1);
        doc.is("by 4: node(35, 8) of a slope", Pictures.shown("P466" + slope).node(35, 8), 1);
        ShadeTree right = Pictures.shown("P433" + "000011011");
        doc.is("node(4, 7) at the lower right", right.node(4, 7), 2);
        doc.is("node(4, 8) at the lower right", right.node(4, 8), 2);
    }

    private static void nodeRise() {
        doc.of(8, "RISE: its LEVEL, less the greatest t below it at which the PART that holds it has"
                + " a DOT brighter than any of its own; NONE: none is brighter.");
        doc.is("node(0, 9) of one dot", new ShadeTree().node(0, 9), NONE);
        doc.is("node(0, 9) of one bright dot", Pictures.shown("P4119").node(0, 9), NONE);
        doc.is("node(0, 9) of 8, 0, 9", Pictures.shown("P431809").node(0, 9), 8);
        doc.is("node(0, 9) of 8, 7, 9", Pictures.shown("P431879").node(0, 9), 1);
        doc.is("node(0, 9) of 1, 0, 2", Pictures.shown("P431102").node(0, 9), 1);
        doc.is("node(0, 9) of 9, 0, 9: as bright", Pictures.shown("P431909").node(0, 9), NONE);
        doc.is("node(2, 9) of 9, 0, 8: only dot 0", Pictures.shown("P431908").node(2, 9), 8);
        doc.is("node(2, 9) of 8, 0, 9: the brightest", Pictures.shown("P431809").node(2, 9), NONE);
        doc.is("node(1, 9) of all dots", Pictures.shown("P431809").node(1, 9), NONE);
        // 9 is met at 6; at 2 there would be one, too
        doc.is("node(0, 9): the greatest t", Pictures.shown("P451" + "86926").node(0, 9), 2);
        // {0, 1} at 3 has a 7, so that 6 is not brighter, 8 is
        doc.is("node(1, 9): 6 behind a pass of 2, 8 behind 1",
                Pictures.shown("P461" + "732618").node(1, 9), 2);
    }

    // ---- 9

    private static void dotsAsBits() {
        doc.of(9, "DOTS of THE NODE of a DOT, as bits. UNKNOWN.");
        doc.is("dots(0) of one dot", new ShadeTree().dots(0), 1);
        doc.is("dots(1) of one dot", new ShadeTree().dots(1), UNKNOWN);
        doc.is("dots(-1) of one dot", new ShadeTree().dots(-1), UNKNOWN);
        ShadeTree x = Pictures.shown(LARGEST);
        doc.is("dots(35) of all 36", x.dots(35), (1L << 36) - 1);
        doc.is("dots(34), all but the last", x.dots(34), (1L << 35) - 1);
        doc.is("dots(36)", x.dots(36), UNKNOWN);
        doc.is("dots(least)", x.dots(LEAST), UNKNOWN);
        doc.is("dots(greatest)", x.dots(GREATEST), UNKNOWN);
        x.negative();
        doc.is("dots(35), the last alone", x.dots(35), 1L << 35);
        ShadeTree bit31 = Pictures.shown("P466" + "0".repeat(31) + "9" + "0000");
        doc.is("dots(31), bit 31", bit31.dots(31), 1L << 31);
        doc.of(9, "THE NODE of a DOT: the PART at its SHADE in which it is");
        ShadeTree bridged = Pictures.shown("P461" + "353203");
        doc.is("dots(0), one PART at 3 over a brighter dot", bridged.dots(0), 0b000111);
        doc.is("dots(2), the same one", bridged.dots(2), 0b000111);
        doc.is("dots(5), as bright, but another PART", bridged.dots(5), 0b100000);
        doc.is("dots(1), brighter, without them", bridged.dots(1), 0b000010);
        doc.is("dots(3), darker, with them", bridged.dots(3), 0b001111);
    }

    // ---- 10

    private static void partsRange() {
        doc.of(10, "How many PARTS there are at t. BAD: t (0 .. 9).");
        ShadeTree x = Pictures.shown("P431909");
        doc.is("parts(-1)", x.parts(-1), BAD);
        doc.is("parts(0)", x.parts(0), 1);
        doc.is("parts(9)", x.parts(9), 2);
        doc.is("parts(10)", x.parts(10), BAD);
        doc.is("parts(least)", x.parts(LEAST), BAD);
        doc.is("parts(greatest)", x.parts(GREATEST), BAD);
    }

    private static void partsLeastAndGreatest() {
        doc.of(10, "of all DOTS of SHADE t or more those that hang together by NEIGHBOURS.");
        for (int v = 0; v <= 9; v++) {
            ShadeTree x = Pictures.shown("P411" + v);
            for (int t = 0; t <= 9; t++) {
                doc.is("parts(" + t + ") of a dot of " + v, x.parts(t), t <= v ? 1 : 0);
            }
        }
        String board = "909090090909".repeat(3);
        doc.is("by 4: parts(9) of a board", Pictures.shown("P466" + board).parts(9), 18);
        doc.is("by 8: parts(9) of a board", Pictures.shown("P866" + board).parts(9), 1);
        String spiral = "999999" + "000009" + "999909" + "900909" + "900009" + "999999";
        doc.is("by 4: parts(9) of a spiral", Pictures.shown("P466" + spiral).parts(9), 1);
        String snake = "999999" + "000009" + "999999" + "900000" + "999999" + "000009";
        doc.is("by 4: parts(9) of a snake", Pictures.shown("P466" + snake).parts(9), 1);
        doc.is("by 4: pass(0, 35) over a snake", Pictures.shown("P466" + snake).pass(0, 35), 9);
    }
}
