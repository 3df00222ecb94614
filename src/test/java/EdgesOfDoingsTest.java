/** The boundary cases of promises 11 to 14: dots painted, the negative, parts taken down, undone. */
public final class EdgesOfDoingsTest {
    private static final int UNKNOWN = ShadeTree.UNKNOWN;
    private static final int BAD = ShadeTree.BAD;
    private static final int LATE = ShadeTree.LATE;
    private static final int LEAST = Integer.MIN_VALUE;
    private static final int GREATEST = Integer.MAX_VALUE;

    private static final Sentences doc = new Sentences();

    public static void main(String[] args) {
        paintedDots();
        paintedShades();
        paintedAsItWas();
        negative();
        siftRange();
        siftedByArea();
        siftedByAreaOf36();
        sievedByColumns();
        sievedByRows();
        siftedToAllDots();
        siftedOnceAndForAll();
        undoNone();
        undoEachKind();
        undoOfAFullRow();
        doc.end(11, 14);
    }

    // ---- 11

    private static void paintedDots() {
        doc.of(11, "PAINTED: its SHADE as it was. UNKNOWN");
        ShadeTree x = new ShadeTree();
        doc.is("paint(-1, 3) of one dot", x.paint(-1, 3), UNKNOWN);
        doc.is("paint(1, 3) of one dot", x.paint(1, 3), UNKNOWN);
        doc.is("paint(0, 3) of one dot", x.paint(0, 3), 0);
        doc.shades("painted", x, "3");
        Pictures.show(x, "P466" + "1".repeat(35) + "2");
        doc.is("paint(36, 9) of 36", x.paint(36, 9), UNKNOWN);
        doc.is("paint(64, 9) of 36", x.paint(64, 9), UNKNOWN);
        doc.is("paint(least, 9) of 36", x.paint(LEAST, 9), UNKNOWN);
        doc.is("paint(greatest, 9) of 36", x.paint(GREATEST, 9), UNKNOWN);
        doc.is("about(7), all refused", x.about(7), 0);
        doc.is("paint(35, 9) of 36", x.paint(35, 9), 2);
        doc.is("paint(0, 8) of 36", x.paint(0, 8), 1);
        doc.shades("painted at both ends", x, "8" + "1".repeat(34) + "9");
    }

    private static void paintedShades() {
        doc.of(11, "BAD: v (0 .. 9).");
        ShadeTree x = new ShadeTree();
        for (int v : new int[] {-1, 10, LEAST, GREATEST}) {
            doc.is("paint(0, " + v + ")", x.paint(0, v), BAD);
            doc.is("paint(1, " + v + "), unknown first", x.paint(1, v), UNKNOWN);
            doc.is("paint(-1, " + v + "), unknown first", x.paint(-1, v), UNKNOWN);
        }
        doc.shades("all refused", x, "0");
        doc.is("about(7), all refused", x.about(7), 0);
        for (int v = 0; v <= 9; v++) {
            doc.is("paint(0, " + v + ")", x.paint(0, v), Math.max(0, v - 1));
            doc.is("shade(0)", x.shade(0), v);
            doc.is("parts(" + v + ")", x.parts(v), 1);
            doc.is("parts(" + (v + 1) + ")", x.parts(v + 1), v == 9 ? BAD : 0);
        }
        for (int v = 9; v >= 0; v--) {
            doc.is("paint(0, " + v + ")", x.paint(0, v), Math.min(9, v + 1));
            doc.is("shade(0)", x.shade(0), v);
        }
    }

    private static void paintedAsItWas() {
        doc.of(11, "PAINTED: a DOT has another SHADE.");
        ShadeTree x = Pictures.four();
        doc.is("paint(3, 9) of 9", x.paint(3, 9), 9);
        doc.is("about(7): it is a doing all the same", x.about(7), 1);
        doc.is("undo()", x.undo(), 0);
        x.paint(4, 5);
        doc.shades("no other dot", x, "550951113070");
        doc.is("dots(4): it hangs together with dot 0", x.dots(4), 19);
    }

    // ---- 12

    private static void negative() {
        doc.of(12, "NEGATIVE: NODES then.");
        doc.is("negative() of one dot", new ShadeTree().negative(), 1);
        doc.is("negative() of 5, 0, 5 ..", Pictures.shown("P433505050505").negative(), 5);
        doc.is("negative() of 36", Pictures.shown("P466" + "0".repeat(36)).negative(), 1);
        doc.of(12, "NEGATIVE: each SHADE v becomes 9 less v.");
        ShadeTree x = Pictures.shown("P4520123456789");
        doc.is("negative() of ten steps", x.negative(), 10);
        doc.shades("its shades", x, "9876543210");
        doc.is("negative() of it", x.negative(), 10);
        doc.shades("its shades", x, "0123456789");
        ShadeTree y = Pictures.shown("P466" + "0".repeat(35) + "9");
        doc.is("negative() of 36 with a bright one", y.negative(), 2);
        doc.shades("its shades", y, "9".repeat(35) + "0");
        doc.is("about(6)", y.about(6), 315);
        doc.is("parts(9)", y.parts(9), 1);
        doc.is("dots(0)", y.dots(0), (1L << 35) - 1);
    }

    // ---- 13

    private static void siftRange() {
        doc.of(13, "SIFTED (how = 0), SIEVED (1): how many DOTS have another SHADE then. BAD: how, n.");
        ShadeTree x = Pictures.four();
        for (int how : new int[] {-1, 2, LEAST, GREATEST}) {
            for (int n : new int[] {0, 1, 6, 7, 36, 37}) {
                doc.is("sift(" + how + ", " + n + ")", x.sift(how, n), BAD);
            }
        }
        doc.of(13, "SIFTED by n (1 .. 36)");
        for (int n : new int[] {0, -1, 37, LEAST, GREATEST}) {
            doc.is("sift(0, " + n + ")", x.sift(0, n), BAD);
        }
        doc.of(13, "SIEVED by n (1 .. 6)");
        for (int n : new int[] {0, -1, 7, 36, 37, LEAST, GREATEST}) {
            doc.is("sift(1, " + n + ")", x.sift(1, n), BAD);
        }
        doc.is("about(7), all refused", x.about(7), 0);
        doc.shades("all refused", x, Pictures.FIGURES);
        doc.is("sift(0, 1): nothing is smaller", x.sift(0, 1), 0);
        doc.is("sift(1, 1): nothing is narrower", x.sift(1, 1), 0);
        doc.is("sift(1, 6)", x.sift(1, 6), 8);
        doc.is("sift(0, 36)", x.sift(0, 36), 0);
        doc.is("about(7), all taken", x.about(7), 4);
    }

    private static void sifted(String letters, int how, int n, int changed, String shades) {
        ShadeTree x = Pictures.shown(letters);
        String call = letters + ", sift(" + how + ", " + n + ")";
        doc.is(call, x.sift(how, n), changed);
        doc.shades(call, x, shades);
    }

    private static void siftedByArea() {
        doc.of(13, "each DOT gets the greatest LEVEL of a NODE that holds it and has AREA n or more");
        // a part of AREA 2 at 5, in one of AREA 7 at 1, in all 12 dots
        String four = "P443" + Pictures.FIGURES;
        sifted(four, 0, 1, 0, Pictures.FIGURES);
        sifted(four, 0, 2, 3, "550101110010");
        sifted(four, 0, 3, 5, "110101110010");
        sifted(four, 0, 7, 5, "110101110010");
        sifted(four, 0, 8, 8, "000000000000");
        sifted(four, 0, 12, 8, "000000000000");
        sifted(four, 0, 13, 8, "000000000000");
        // by 8 the part at 1 has AREA 8
        String eight = "P843" + Pictures.FIGURES;
        sifted(eight, 0, 8, 5, "110101111010");
        sifted(eight, 0, 9, 8, "000000000000");
        // steps: of the NODES that hold dot 0 one has AREA 1, 2, .. 6
        sifted("P461987654", 0, 1, 0, "987654");
        sifted("P461987654", 0, 2, 1, "887654");
        sifted("P461987654", 0, 5, 4, "555554");
        sifted("P461987654", 0, 6, 5, "444444");
    }

    private static void siftedByAreaOf36() {
        doc.of(13, "SIFTED by n (1 .. 36): each DOT gets the greatest LEVEL");
        String most = "P466" + "9".repeat(35) + "5";
        sifted(most, 0, 34, 0, "9".repeat(35) + "5");
        sifted(most, 0, 35, 0, "9".repeat(35) + "5");
        sifted(most, 0, 36, 35, "5".repeat(36));
        String last = "P466" + "5".repeat(35) + "9";
        sifted(last, 0, 1, 0, "5".repeat(35) + "9");
        sifted(last, 0, 2, 1, "5".repeat(36));
        sifted("P466" + "3".repeat(36), 0, 36, 0, "3".repeat(36));
    }

    private static void sievedByColumns() {
        doc.of(13, "so, too, but for BOXES that touch n columns or more, or n rows or more.");
        for (int columns = 1; columns <= 6; columns++) {
            // a bar, one row high, in 6 by 2 dots
            String bar = "9".repeat(columns) + "0".repeat(12 - columns);
            for (int n = 1; n <= 6; n++) {
                boolean stays = columns >= n;
                sifted("P462" + bar, 1, n, stays ? 0 : columns, stays ? bar : "0".repeat(12));
            }
        }
    }

    private static void sievedByRows() {
        doc.of(13, "n columns or more, or n rows or more.");
        for (int rows = 1; rows <= 6; rows++) {
            // a bar, one column wide, in 2 by 6 dots
            String bar = "90".repeat(rows) + "00".repeat(6 - rows);
            for (int n = 1; n <= 6; n++) {
                boolean stays = rows >= n;
                sifted("P426" + bar, 1, n, stays ? 0 : rows, stays ? bar : "0".repeat(12));
            }
        }
        // 2 columns and 2 rows, AREA 4: it is the BOX that counts
        String block = "7700" + "7700" + "0000";
        sifted("P443" + block, 1, 2, 0, block);
        sifted("P443" + block, 1, 3, 4, "0".repeat(12));
        // a slope of AREA 3 has a BOX of 3 by 3 by way 8, of 1 by 1 by way 4
        String slope = "700" + "070" + "007";
        sifted("P833" + slope, 1, 3, 0, slope);
        sifted("P433" + slope, 1, 2, 3, "0".repeat(9));
    }

    private static void siftedToAllDots() {
        doc.of(13, "or, if there is none, THE LEVEL of all DOTS");
        sifted("P4110", 0, 36, 0, "0");
        sifted("P4117", 0, 36, 0, "7");
        sifted("P4117", 0, 2, 0, "7");
        sifted("P4117", 1, 6, 0, "7");
        sifted("P42147", 0, 2, 1, "44");
        sifted("P42147", 0, 3, 1, "44");
        sifted("P42147", 0, 36, 1, "44");
        sifted("P42147", 1, 6, 1, "44");
        sifted("P422" + "9367", 0, 36, 3, "3333");
        sifted("P422" + "9367", 1, 6, 3, "3333");
    }

    private static void siftedOnceAndForAll() {
        doc.of(13, "parts that are too small, or too narrow, taken down to what they stand on, once"
                + " and for all");
        for (int n = 1; n <= 36; n++) {
            ShadeTree x = Pictures.four();
            x.sift(0, n);
            String shades = Pictures.shades(x);
            doc.is("sift(0, " + n + ") once more", x.sift(0, n), 0);
            doc.shades("sift(0, " + n + ") once more", x, shades);
        }
        for (int n = 1; n <= 6; n++) {
            ShadeTree x = Pictures.four();
            x.sift(1, n);
            doc.is("sift(1, " + n + ") once more", x.sift(1, n), 0);
        }
    }

    // ---- 14

    private static void undoNone() {
        doc.of(14, "LATE: there is none.");
        ShadeTree x = new ShadeTree();
        doc.is("undo() of a new object", x.undo(), LATE);
        doc.is("undo() once more", x.undo(), LATE);
        doc.is("about(7)", x.about(7), 0);
        x.paint(0, 4);
        doc.is("undo() of the only one", x.undo(), 0);
        doc.is("undo() behind it", x.undo(), LATE);
        doc.shades("undone", x, "0");
        x.paint(0, 10);
        x.paint(1, 1);
        x.sift(0, 37);
        x.sift(1, 7);
        doc.is("undo() behind refused ones", x.undo(), LATE);
        Pictures.show(x, "P4115");
        doc.is("undo() behind picture()", x.undo(), LATE);
        x.keep(0);
        x.negative();
        x.again(0);
        doc.is("undo() behind again()", x.undo(), LATE);
        doc.shades("as kept", x, "5");
    }

    private static void undoEachKind() {
        doc.of(14, "The last DOING is undone: how many are left.");
        ShadeTree x = Pictures.four();
        x.paint(2, 9);
        x.negative();
        x.sift(0, 4);
        x.sift(1, 4);
        x.paint(0, 0);
        doc.is("undo() of painted", x.undo(), 4);
        doc.is("undo() of sieved", x.undo(), 3);
        doc.is("undo() of sifted", x.undo(), 2);
        doc.shades("the negative", x, "440098886929");
        doc.is("undo() of negative", x.undo(), 1);
        doc.shades("the painted", x, "559901113070");
        x.paint(2, 1);
        doc.is("undo() of another one instead", x.undo(), 1);
        doc.shades("the painted", x, "559901113070");
        doc.is("undo() of painted", x.undo(), 0);
        doc.shades("all undone", x, Pictures.FIGURES);
    }

    /** Two dots painted in turn: ten doings on end leave shades that no other of them leaves. */
    private static ShadeTree done(int count) {
        ShadeTree x = Pictures.shown("P421" + "00");
        for (int i = 1; i <= count; i++) {
            x.paint(i % 2, i % 10);
        }
        return x;
    }

    private static void undoOfAFullRow() {
        doc.of(14, "are a row (14 at most; when it is full, the first one is forgotten); the last one"
                + " can be undone.");
        for (int count = 0; count <= 30; count++) {
            ShadeTree x = done(count);
            int kept = Math.min(14, count);
            doc.is("about(7), " + count + " done", x.about(7), kept);
            for (int left = kept - 1; left >= 0; left--) {
                doc.is("undo(), " + count + " done", x.undo(), left);
                doc.shades("undone, " + count + " done", x,
                        Pictures.shades(done(count - kept + left)));
            }
            doc.is("undo(), none left of " + count, x.undo(), LATE);
        }
        ShadeTree full = done(14);
        full.negative();
        doc.is("about(7): a NEGATIVE on a full row", full.about(7), 14);
        full.sift(0, 2);
        doc.is("about(7): SIFTED on a full row", full.about(7), 14);
        full.sift(1, 2);
        doc.is("about(7): SIEVED on a full row", full.about(7), 14);
        for (int left = 13; left >= 0; left--) {
            doc.is("undo() of a full row", full.undo(), left);
        }
        doc.shades("three are forgotten", full, Pictures.shades(done(3)));
        full.paint(0, 9);
        doc.is("undo() of one behind a row undone", full.undo(), 0);
        doc.shades("undone", full, Pictures.shades(done(3)));
    }
}
