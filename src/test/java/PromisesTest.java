/**
 * Each promise of the document by hand: ordinary inputs, the edges it names, and wrong inputs. Most
 * of it is asked of the picture that stands at Pictures.FIGURES.
 */
public final class PromisesTest {
    private static final String FIGURES = Pictures.FIGURES;
    private static final int[] WRONG = {Integer.MIN_VALUE, -1, Integer.MAX_VALUE};

    private static final Due due = new Due();

    public static void main(String[] args) {
        aNewObject();
        write();
        wipe();
        fault();
        picture();
        about();
        shade();
        node();
        dots();
        parts();
        paint();
        negative();
        sift();
        undo();
        pass();
        grows();
        steady();
        judgeDoings();
        judgeLooks();
        judgeRows();
        share();
        see();
        unsee();
        ways();
        fades();
        seed();
        drawn();
        keepAndAgain();
        refusedChangesNothing();
        due.end();
    }

    private static void is(String call, long got, long want) {
        due.is(call, got, want);
    }

    private static ShadeTree told(String letters) {
        return Pictures.told(letters);
    }

    private static void tell(ShadeTree x, String letters) {
        Pictures.tell(x, letters);
    }

    private static ShadeTree shown(String letters) {
        return Pictures.shown(letters);
    }

    private static ShadeTree four() {
        return Pictures.four();
    }

    private static ShadeTree eight() {
        return Pictures.eight();
    }

    private static void are(String when, ShadeTree x, String figures) {
        String shades = Pictures.shades(x);
        due.so(when + ": " + shades + ", due is " + figures, shades.equals(figures));
    }

    // ---- 1
    private static void aNewObject() {
        ShadeTree x = new ShadeTree();
        int[] about = {4, 1, 1, 1, 1, 0, 0, 0, 0, 0};
        for (int what = 0; what < about.length; what++) {
            is("new: about(" + what + ")", x.about(what), about[what]);
        }
        is("new: shade(0)", x.shade(0), 0);
        is("new: shade(1)", x.shade(1), ShadeTree.UNKNOWN);
        is("new: undo()", x.undo(), ShadeTree.LATE);
        is("new: again(0)", x.again(0), ShadeTree.LATE);
        is("new: again(1)", x.again(1), ShadeTree.LATE);
        is("new: seed(1)", x.seed(1), 0);
    }

    // ---- 2
    private static void write() {
        ShadeTree x = new ShadeTree();
        is("write(-1)", x.write(-1), ShadeTree.BAD);
        is("write(256)", x.write(256), ShadeTree.BAD);
        is("write(0)", x.write(0), 1);
        is("write(255)", x.write(255), 2);
        for (int size = 3; size <= 40; size++) {
            is("write('0')", x.write('0'), size);
        }
        is("write('0'), full", x.write('0'), ShadeTree.FULL);
        is("write(256), full: bad is told first", x.write(256), ShadeTree.BAD);
        is("letters, full", x.about(9), 40);
    }

    // ---- 3
    private static void wipe() {
        ShadeTree x = told("P41");
        is("wipe()", x.wipe(), 3);
        is("wipe(), empty", x.wipe(), 0);
        is("write('P') behind a wipe", x.write('P'), 1);
        ShadeTree y = four();
        is("wipe() behind a picture", y.wipe(), 16);
        are("the picture behind a wipe", y, FIGURES);
    }

    // ---- 4
    private static void fault() {
        String[] letters = {
            "", "P", "P4", "P8", "P46", "P461", "P4611234", "P411",
            "p", "X9", "4", "P5", "P0", "PP", "P40", "P47", "P4P", "P410", "P417", "P41P",
            "P411:", "P411/", "P411P", "P4120x", "P41100", "P8220000", "P82200001", "P8220000P",
            "P4110", "P8119", "P461123456", "P416123456", "P4\u00ff"
        };
        int[] want = {
            0, 1, 2, 2, 3, 4, 8, 4,
            0, 0, 0, 1, 1, 1, 2, 2, 2, 3, 3, 3,
            4, 4, 4, 5, 5, -9, 8, 8,
            -9, -9, -9, -9, 2
        };
        for (int i = 0; i < letters.length; i++) {
            is("fault() of " + letters[i], told(letters[i]).fault(), want[i]);
        }
        is("fault() of 36 dots", told("P466" + "7".repeat(36)).fault(), ShadeTree.NONE);
        is("fault() of 35 of 36 dots", told("P466" + "7".repeat(35)).fault(), 39);
        is("fault() of 36 figures for 25 dots", told("P455" + "7".repeat(36)).fault(), 29);
        is("fault() changes no text", told("P411").about(9), 4);
        ShadeTree x = told("P4661234");
        x.wipe();
        x.write('P');
        is("fault() of a text over a wiped one", x.fault(), 1);
    }

    // ---- 5
    private static void picture() {
        is("picture() of four", told("P443" + FIGURES).picture(), 6);
        is("picture() of eight", told("P843" + FIGURES).picture(), 6);
        is("picture() of one", told("P4117").picture(), 1);
        ShadeTree x = four();
        x.see(0, 11, 1);
        x.seed(77);
        x.keep(0);
        x.keep(1);
        x.paint(0, 9);
        tell(x, "P4125");
        is("picture() with a fault", x.picture(), ShadeTree.LATE);
        is("doings behind a refused picture", x.about(7), 1);
        are("a refused picture", x, "950901113070");
        is("again(1) behind a refused picture", x.again(1), 6);
        x.paint(0, 9);
        tell(x, "P82112");
        is("picture()", x.picture(), 2);
        are("a new picture", x, "12");
        is("way", x.about(0), 8);
        is("w", x.about(1), 2);
        is("h", x.about(2), 1);
        is("doings behind a picture", x.about(7), 0);
        is("undo() behind a picture", x.undo(), ShadeTree.LATE);
        is("again(0) behind a picture", x.again(0), ShadeTree.LATE);
        is("again(1) behind a picture", x.again(1), ShadeTree.LATE);
        is("seen behind a picture", x.about(8), 1);
        is("seed behind a picture", x.seed(0), 77);
        is("letters behind a picture", x.about(9), 6);
        is("the same picture once more", x.picture(), 2);
    }

    // ---- 6
    private static void about() {
        ShadeTree x = four();
        x.paint(0, 5);
        x.negative();
        x.undo();
        x.see(0, 1, 1);
        x.see(0, 1, 1);
        int[] want = {4, 4, 3, 6, 4, 2, 32, 1, 2, 16};
        for (int what = 0; what < want.length; what++) {
            is("about(" + what + ")", x.about(what), want[what]);
        }
        is("about(0) of eight", eight().about(0), 8);
        is("about(10)", x.about(10), ShadeTree.BAD);
        for (int wrong : WRONG) {
            is("about(" + wrong + ")", x.about(wrong), ShadeTree.BAD);
        }
        ShadeTree steps = shown("P461987654");
        is("depth of steps", steps.about(5), 5);
        is("leaves of steps", steps.about(4), 1);
        is("nodes of a board by 4", shown("P433909090909").about(3), 6);
        is("nodes of a board by 8", shown("P833909090909").about(3), 2);
    }

    // ---- 7
    private static void shade() {
        ShadeTree x = four();
        for (int dot = 0; dot < 12; dot++) {
            is("shade(" + dot + ")", x.shade(dot), FIGURES.charAt(dot) - '0');
        }
        is("shade(12)", x.shade(12), ShadeTree.UNKNOWN);
        for (int wrong : WRONG) {
            is("shade(" + wrong + ")", x.shade(wrong), ShadeTree.UNKNOWN);
        }
        is("shade(35) of 36", shown("P466" + "1".repeat(35) + "8").shade(35), 8);
    }

    // ---- 8
    private static void node() {
        ShadeTree x = four();
        int[] dots = {3, 10, 0, 1, 8, 5, 7, 2, 11};
        int[][] want = {
            {3, 9, 1, 9, 5, 0, 2, 1, 1, -9},
            {10, 7, 1, 7, 5, 0, 2, 1, 1, 6},
            {0, 5, 2, 10, 5, 0, 2, 2, 1, 4},
            {0, 5, 2, 10, 5, 0, 2, 2, 1, 4},
            {8, 3, 1, 3, 2, 0, 1, 1, 1, 3},
            {5, 1, 7, 29, 2, 3, 1, 4, 3, -9},
            {5, 1, 7, 29, 2, 3, 1, 4, 3, -9},
            {2, 0, 12, 32, -9, 2, 0, 4, 3, -9},
            {2, 0, 12, 32, -9, 2, 0, 4, 3, -9},
        };
        for (int i = 0; i < dots.length; i++) {
            for (int what = 0; what < 10; what++) {
                is("node(" + dots[i] + ", " + what + ")", x.node(dots[i], what), want[i][what]);
            }
        }
        is("node(12, 0)", x.node(12, 0), ShadeTree.UNKNOWN);
        is("node(-1, 10): unknown is told first", x.node(-1, 10), ShadeTree.UNKNOWN);
        is("node(0, 10)", x.node(0, 10), ShadeTree.BAD);
        is("node(0, -1)", x.node(0, -1), ShadeTree.BAD);
        ShadeTree y = eight();
        is("by 8: node(8, 4)", y.node(8, 4), 5);
        is("by 8: node(8, 9)", y.node(8, 9), 2);
        is("by 8: node(5, 2)", y.node(5, 2), 8);
        is("by 8: node(5, 5)", y.node(5, 5), 4);
        // two dots of equal shade: neither is brighter than the other
        is("RISE of equals", shown("P431505").node(0, 9), ShadeTree.NONE);
        is("RISE over a pass", shown("P431637").node(0, 9), 3);
        // the brightest dot of the node counts, not its level
        is("RISE from a node's level", shown("P441530" + "6").node(1, 9), 3);
    }

    // ---- 9
    private static void dots() {
        ShadeTree x = four();
        is("dots(0)", x.dots(0), 3);
        is("dots(3)", x.dots(3), 8);
        is("dots(5)", x.dots(5), 1259);
        is("dots(2)", x.dots(2), 4095);
        is("dots(12)", x.dots(12), ShadeTree.UNKNOWN);
        for (int wrong : WRONG) {
            is("dots(" + wrong + ")", x.dots(wrong), ShadeTree.UNKNOWN);
        }
        is("by 8: dots(5)", eight().dots(5), 1259 + 256);
        is("dots(0) of 36", shown("P466" + "3".repeat(36)).dots(0), (1L << 36) - 1);
        is("dots(35) of 36", shown("P466" + "3".repeat(35) + "4").dots(35), 1L << 35);
        // the end of a row does not touch the beginning of the next one
        is("dots(1) over an end of a row", shown("P422" + "0990").dots(1), 2);
        is("by 8: dots(2) over an end of a row", shown("P832" + "009900").dots(2), 4);
    }

    // ---- 10
    private static void parts() {
        int[] byFour = {1, 2, 4, 4, 3, 3, 2, 2, 1, 1};
        int[] byEight = {1, 1, 4, 4, 3, 3, 2, 2, 1, 1};
        for (int t = 0; t <= 9; t++) {
            is("parts(" + t + ")", four().parts(t), byFour[t]);
            is("by 8: parts(" + t + ")", eight().parts(t), byEight[t]);
        }
        is("parts(10)", four().parts(10), ShadeTree.BAD);
        for (int wrong : WRONG) {
            is("parts(" + wrong + ")", four().parts(wrong), ShadeTree.BAD);
        }
        is("parts(1) of the dark", new ShadeTree().parts(1), 0);
        is("parts(9) of a board", shown("P466" + "909090090909".repeat(3)).parts(9), 18);
        is("by 8: parts(9) of a board", shown("P866" + "909090090909".repeat(3)).parts(9), 1);
    }

    // ---- 11
    private static void paint() {
        ShadeTree x = four();
        is("paint(3, 0)", x.paint(3, 0), 9);
        is("paint(3, 9)", x.paint(3, 9), 0);
        is("paint(3, 9) once more", x.paint(3, 9), 9);
        is("doings", x.about(7), 3);
        is("paint(2, 5)", x.paint(2, 5), 0);
        are("painted", x, "555901113070");
        is("dots(0), painted", x.dots(0), 15);
        is("paint(12, 0)", x.paint(12, 0), ShadeTree.UNKNOWN);
        is("paint(-1, 10): unknown is told first", x.paint(-1, 10), ShadeTree.UNKNOWN);
        is("paint(0, 10)", x.paint(0, 10), ShadeTree.BAD);
        is("paint(0, -1)", x.paint(0, -1), ShadeTree.BAD);
        is("doings, refused", x.about(7), 4);
    }

    // ---- 12
    private static void negative() {
        ShadeTree x = four();
        // 4490 / 9888 / 6929: {2}, {4}, {9}, {11} at 9, {6, 2, 5, 7, 9, 11, 4} at 8 .. and so on
        is("negative()", x.negative(), 9);
        are("the negative", x, "449098886929");
        is("negative() of it", x.negative(), 6);
        are("the negative of it", x, FIGURES);
        is("doings", x.about(7), 2);
        ShadeTree y = shown("P4529876543210");
        y.negative();
        are("the negative of all shades", y, "0123456789");
        is("negative() of a dot", new ShadeTree().negative(), 1);
    }

    // ---- 13
    private static void sift() {
        sifted(0, 1, 0, FIGURES);
        sifted(0, 2, 3, "550101110010");
        sifted(0, 3, 5, "110101110010");
        sifted(0, 7, 5, "110101110010");
        sifted(0, 8, 8, "000000000000");
        sifted(0, 36, 8, "000000000000");
        sifted(1, 1, 0, FIGURES);
        sifted(1, 2, 3, "550101110010");
        sifted(1, 3, 5, "110101110010");
        sifted(1, 4, 5, "110101110010");
        sifted(1, 5, 8, "000000000000");
        sifted(1, 6, 8, "000000000000");
        int[][] bad = {{-1, 1}, {2, 1}, {0, 0}, {0, 37}, {1, 0}, {1, 7}, {0, -1}, {1, -1},
            {Integer.MAX_VALUE, 1}, {0, Integer.MIN_VALUE}};
        ShadeTree x = four();
        for (int[] b : bad) {
            is("sift(" + b[0] + ", " + b[1] + ")", x.sift(b[0], b[1]), ShadeTree.BAD);
        }
        is("doings, refused", x.about(7), 0);
        ShadeTree low = shown("P42147");
        is("sift(0, 36) over a level of 4", low.sift(0, 36), 1);
        are("sifted to the level of all dots", low, "44");
        ShadeTree rows = shown("P413055");
        is("sift(1, 2) by rows", rows.sift(1, 2), 0);
        is("sift(1, 3) by rows", rows.sift(1, 3), 2);
        ShadeTree steps = shown("P461987650");
        is("sift(0, 3) of steps", steps.sift(0, 3), 2);
        are("sifted steps", steps, "777650");
        ShadeTree y = four();
        y.sift(0, 2);
        is("sift(0, 2) once more", y.sift(0, 2), 0);
        is("doings", y.about(7), 2);
    }

    private static void sifted(int how, int n, int changed, String figures) {
        ShadeTree x = four();
        is("sift(" + how + ", " + n + ")", x.sift(how, n), changed);
        are("sift(" + how + ", " + n + ")", x, figures);
    }

    // ---- 14
    private static void undo() {
        ShadeTree x = four();
        is("undo(), none", x.undo(), ShadeTree.LATE);
        x.paint(0, 0);
        x.negative();
        x.sift(0, 3);
        x.sift(1, 4);
        x.sift(0, 1);
        is("undo() of nothing changed", x.undo(), 4);
        is("undo() of sieved", x.undo(), 3);
        is("undo() of sifted", x.undo(), 2);
        are("undone to the negative", x, "949098886929");
        is("undo() of negative", x.undo(), 1);
        are("undone to the painted", x, "050901113070");
        is("undo() of painted", x.undo(), 0);
        are("all undone", x, FIGURES);
        is("undo(), none left", x.undo(), ShadeTree.LATE);
        for (int i = 0; i < 16; i++) {
            x.paint(i % 12, i % 10 == FIGURES.charAt(i % 12) - '0' ? 8 : i % 10);
            is("doings, " + (i + 1) + " done", x.about(7), Math.min(14, i + 1));
        }
        for (int left = 13; left >= 0; left--) {
            is("undo()", x.undo(), left);
        }
        are("the first two are forgotten", x, "010901113070");
        is("undo() of what is forgotten", x.undo(), ShadeTree.LATE);
    }

    // ---- 15
    private static void pass() {
        ShadeTree x = four();
        is("pass(0, 1)", x.pass(0, 1), 5);
        is("pass(0, 3)", x.pass(0, 3), 1);
        is("pass(3, 0)", x.pass(3, 0), 1);
        is("pass(8, 3)", x.pass(8, 3), 0);
        is("by 8: pass(8, 3)", eight().pass(8, 3), 1);
        is("pass(3, 3)", x.pass(3, 3), 9);
        is("pass(2, 2)", x.pass(2, 2), 0);
        is("pass(2, 3)", x.pass(2, 3), 0);
        is("pass(12, 0)", x.pass(12, 0), ShadeTree.UNKNOWN);
        is("pass(0, 12)", x.pass(0, 12), ShadeTree.UNKNOWN);
        is("pass(-1, 0)", x.pass(-1, 0), ShadeTree.UNKNOWN);
        is("pass(0, -1)", x.pass(0, -1), ShadeTree.UNKNOWN);
        is("pass() in the bright", shown("P431749").pass(0, 2), 4);
    }

    // ---- 16
    private static void grows() {
        int[][] want = {{0, 4, 5, 2}, {0, 3, 0, 1}, {0, 9, 5, 1}, {0, 5, 5, 1}, {3, 9, 11, 1},
            {5, 1, 5, 7}, {2, 1, 0, 1}, {8, 2, 0, 1}, {8, 3, 11, 1}, {3, 8, 6, 1}};
        for (int[] g : want) {
            is("grows(" + g[0] + ", " + g[1] + ", true)", four().grows(g[0], g[1], true), g[2]);
            is("grows(" + g[0] + ", " + g[1] + ", false)", four().grows(g[0], g[1], false), g[3]);
        }
        is("by 8: grows(8, 2, true)", eight().grows(8, 2, true), 7);
        is("grows(12, 1, true)", four().grows(12, 1, true), ShadeTree.UNKNOWN);
        is("grows(12, 0, true): unknown is told first", four().grows(12, 0, true), ShadeTree.UNKNOWN);
        is("grows(0, 0, true)", four().grows(0, 0, true), ShadeTree.BAD);
        is("grows(0, 10, false)", four().grows(0, 10, false), ShadeTree.BAD);
        is("grows(0, -1, false)", four().grows(0, -1, false), ShadeTree.BAD);
    }

    // ---- 17
    private static void steady() {
        ShadeTree x = four();
        is("steady(0, 4): 5/2 over 5/7", x.steady(0, 4), 0);
        is("steady(0, 3): 0 under 5/7", x.steady(0, 3), 1);
        is("steady(5, 1): 5/7 over 0", x.steady(5, 1), 0);
        is("steady(2, 9): all dots", x.steady(2, 9), 1);
        is("steady(2, 1): a child that grows less", shown("P461664322").steady(2, 1), 0);
        is("steady(2, 1): a child that grows more", shown("P461554322").steady(2, 1), 1);
        is("steady(1, 1): dot 0 is the child", shown("P461865444").steady(1, 1), 0);
        // 7/5 is less than its parent's 2, but more than the child's 1/4, one level above it
        is("steady(4, 1): a child of one shade", shown("P466777765555555" + "4".repeat(24))
                .steady(4, 1), 0);
        is("steady(0, 1): as much as its parent", shown("P4413211").steady(0, 1), 1);
        is("steady(1, 1): more than all dots", shown("P4413211").steady(1, 1), 0);
        is("steady(12, 1)", x.steady(12, 1), ShadeTree.UNKNOWN);
        is("steady(-1, 0): unknown is told first", x.steady(-1, 0), ShadeTree.UNKNOWN);
        is("steady(0, 0)", x.steady(0, 0), ShadeTree.BAD);
        is("steady(0, 10)", x.steady(0, 10), ShadeTree.BAD);
    }

    private static void judged(int n, long row, int want) {
        ShadeTree x = four();
        is("judge(" + n + ", " + row + ")", x.judge(n, row), want);
        are("judge(" + n + ", " + row + ") changes nothing", x, FIGURES);
        is("judge(" + n + ", " + row + ") is no doing", x.about(7), 0);
    }

    // ---- 18
    private static void judgeDoings() {
        int none = ShadeTree.NONE;
        int[] fine = {1009, 1000, 1119, 2000, 3010, 3360, 4010, 4060};
        for (int row : fine) {
            judged(1, row, none);
        }
        int[] not = {1129, 1990, 2001, 2010, 2100, 3000, 3370, 3011, 4000, 4070, 4110, 4011,
            0, 9, 999, 8000, 9000, 9999};
        for (int row : not) {
            judged(1, row, 0);
        }
    }

    private static void judgeLooks() {
        int none = ShadeTree.NONE;
        int[] fine = {5031, 5080, 6043, 6033, 6000, 6010, 6009, 6019, 7106, 7083, 7004};
        for (int row : fine) {
            judged(1, row, none);
        }
        int[] not = {5032, 5020, 5120, 6053, 6020, 6029, 6999, 7105, 7030, 7020, 7120};
        for (int row : not) {
            judged(1, row, 0);
        }
        judged(2, 2000_6049, none);
        judged(2, 2000_6059, 1);
        judged(3, 3020_6015_6016L, 2);
        judged(2, 4030_6012, 1);
        judged(2, 4030_6011, none);
        judged(4, 1039_2000_2000_5031L, none);
        judged(3, 1030_1070_7106L, 2);
        judged(2, 1065_7106, none);
        judged(3, 1065_1075_7102L, none);
    }

    private static void judgeRows() {
        judged(2, 1009, 0);
        judged(2, 1009_0000, 1);
        judged(4, 2000_2000_2000_8000L, 3);
        judged(4, 9999_9999_9999_9999L, 0);
        judged(4, 1_0000_0000_0000_0000L, ShadeTree.BAD);
        judged(3, 1_0000_0000_0000L, ShadeTree.BAD);
        judged(2, 1_0000_0000L, ShadeTree.BAD);
        judged(1, 1_0000, ShadeTree.BAD);
        judged(1, -1, ShadeTree.BAD);
        judged(4, Long.MIN_VALUE, ShadeTree.BAD);
        judged(4, Long.MAX_VALUE, ShadeTree.BAD);
        judged(0, 0, ShadeTree.BAD);
        judged(5, 2000, ShadeTree.BAD);
        judged(-1, 2000, ShadeTree.BAD);
    }

    // ---- 19
    private static void share() {
        int[][] want = {{0, 3, 2, 1}, {1, 3, 0, 1}, {2, 3, 2, 1}, {0, 1, 1, 1}, {1, 1, -1, 2},
            {2, 1, 3, 2}, {0, 0, 1, 2}, {1, 0, 0, 1}, {2, 0, 1, 2}, {0, 9, 1, 1}, {2, 9, 0, 1}};
        for (int[] s : want) {
            is("share(" + s[0] + ", " + s[1] + ", true)", four().share(s[0], s[1], true), s[2]);
            is("share(" + s[0] + ", " + s[1] + ", false)", four().share(s[0], s[1], false), s[3]);
        }
        // alone a row is one part, beside another one it is none, between two it is one less
        is("share(0) of 6 rows", shown("P416999999").share(0, 9, true), 1);
        is("share(0) of 6 rows, below", shown("P416999999").share(0, 9, false), 2);
        is("share(1) of 6 rows", shown("P416999999").share(1, 9, true), 0);
        is("share(3, 0, true)", four().share(3, 0, true), ShadeTree.UNKNOWN);
        is("share(-1, 10, true): unknown is told first", four().share(-1, 10, true),
                ShadeTree.UNKNOWN);
        is("share(0, 10, true)", four().share(0, 10, true), ShadeTree.BAD);
        is("share(0, -1, false)", four().share(0, -1, false), ShadeTree.BAD);
    }

    // ---- 20
    private static void see() {
        ShadeTree x = four();
        is("see(12, 0, 1)", x.see(12, 0, 1), ShadeTree.UNKNOWN);
        is("see(0, 12, 2): unknown is told first", x.see(0, 12, 2), ShadeTree.UNKNOWN);
        is("see(-1, 0, 1)", x.see(-1, 0, 1), ShadeTree.UNKNOWN);
        is("see(0, 0, 2)", x.see(0, 0, 2), ShadeTree.BAD);
        is("see(0, 0, -1)", x.see(0, 0, -1), ShadeTree.BAD);
        for (int count = 1; count <= 6; count++) {
            is("see(0, 1, 1)", x.see(0, 1, count % 2), count);
        }
        is("see(0, 1, 1), full", x.see(0, 1, 1), ShadeTree.FULL);
        is("see(0, 1, 2), full: bad is told first", x.see(0, 1, 2), ShadeTree.BAD);
        is("see(12, 1, 1), full: unknown is told first", x.see(12, 1, 1), ShadeTree.UNKNOWN);
        is("seen", x.about(8), 6);
    }

    // ---- 21
    private static void unsee() {
        ShadeTree x = four();
        is("unsee(), none", x.unsee(), 0);
        x.see(0, 1, 1);
        x.see(0, 3, 0);
        is("unsee()", x.unsee(), 2);
        is("seen", x.about(8), 0);
        is("ways(0) behind unsee()", x.ways(0), 20);
        is("see() behind unsee()", x.see(0, 1, 1), 1);
    }

    // ---- 22
    private static void ways() {
        ShadeTree x = four();
        is("ways(0), nothing seen", x.ways(0), 20);
        is("ways(1), nothing seen", x.ways(1), 4);
        x.see(0, 3, 1);
        is("ways(0)", x.ways(0), 4);
        is("ways(1)", x.ways(1), 4);
        x.see(8, 3, 0);
        is("ways(0), one left", x.ways(0), 1);
        is("ways(1), one left", x.ways(1), 14);
        x.see(8, 8, 0);
        is("ways(0), none left", x.ways(0), 0);
        is("ways(1), none left", x.ways(1), ShadeTree.NONE);
        x.paint(8, 0);
        is("ways(0), painted", x.ways(0), 2);
        is("ways(2)", x.ways(2), ShadeTree.BAD);
        is("ways(-1)", x.ways(-1), ShadeTree.BAD);
        ShadeTree board = shown("P833505050505");
        board.see(0, 4, 1);
        board.see(1, 1, 0);
        is("ways(0) by corners", board.ways(0), 5);
        is("ways(1) by corners", board.ways(1), 18);
        ShadeTree gone = four();
        gone.see(11, 11, 0);
        gone.see(0, 11, 0);
        tell(gone, "P4119");
        gone.picture();
        is("ways(0), dots that there are not", gone.ways(0), 20);
        gone.see(0, 0, 1);
        is("ways(0), a bright dot", gone.ways(0), 20);
        gone.unsee();
        tell(gone, "P443" + FIGURES);
        gone.picture();
        gone.see(11, 11, 1);
        tell(gone, "P4119");
        gone.picture();
        is("ways(1), a dot that there is not", gone.ways(1), ShadeTree.NONE);
    }

    // ---- 23
    private static void fades() {
        int[][] want = {{1, 1, 4, 3, 363, 1000}, {1, 1, 3, 3, 657, 1000}, {1, 1, 2, 3, 1, 1},
            {1, 1, 5, 3, 0, 1}, {1, 1, 3, 0, 0, 1}, {1, 1, 2, 0, 1, 1}, {1, 1, 4, 10, 1, 1},
            {1, 1, 4, 5, 5, 8}, {0, 2, 4, 5, 3, 8}, {0, 9, 1, 2, 4, 5}, {0, 9, 0, 10, 1, 1},
            {2, 9, 1, 10, 1, 1}, {0, 1, 36, 5, 0, 1}};
        for (int[] f : want) {
            String call = "fades(" + f[0] + ", " + f[1] + ", " + f[2] + ", " + f[3];
            is(call + ", true)", four().fades(f[0], f[1], f[2], f[3], true), f[4]);
            is(call + ", false)", four().fades(f[0], f[1], f[2], f[3], false), f[5]);
        }
        // six dots, all must stay or all go
        ShadeTree six = shown("P461999999");
        is("fades() of six, above", six.fades(0, 9, 1, 3, true), 1000000 - 729);
        is("fades() of six, below", six.fades(0, 9, 1, 3, false), 1000000);
        ShadeTree x = four();
        is("fades(3, 0, ..): unknown is told first", x.fades(3, 0, 0, 0, true), ShadeTree.UNKNOWN);
        is("fades(-1, ..)", x.fades(-1, 1, 0, 0, true), ShadeTree.UNKNOWN);
        int[][] bad = {{0, 0, 0}, {10, 0, 0}, {-1, 0, 0}, {1, -1, 0}, {1, 37, 0}, {1, 0, -1},
            {1, 0, 11}, {Integer.MAX_VALUE, 0, 0}, {1, Integer.MIN_VALUE, 0},
            {1, 0, Integer.MAX_VALUE}};
        for (int[] b : bad) {
            is("fades(0, " + b[0] + ", " + b[1] + ", " + b[2] + ")",
                    x.fades(0, b[0], b[1], b[2], false), ShadeTree.BAD);
        }
        are("fades() changes nothing", x, FIGURES);
    }

    // ---- 24
    private static void seed() {
        ShadeTree x = new ShadeTree();
        is("seed(5)", x.seed(5), 0);
        is("seed(-7)", x.seed(-7), 5);
        is("seed(least)", x.seed(Long.MIN_VALUE), -7);
        is("seed(greatest)", x.seed(Long.MAX_VALUE), Long.MIN_VALUE);
        is("seed(0)", x.seed(0), Long.MAX_VALUE);
    }

    // ---- 25
    private static void drawn() {
        ShadeTree one = new ShadeTree();
        is("drawn(20) of a dot", one.drawn(20), 20);
        ShadeTree two = shown("P42100");
        is("drawn(1)", two.drawn(1), 2);
        is("seed behind drawn(1)", two.seed(0), 1442695040888963407L);
        // seed 0 paints 02, 42, 48, 98, 95, 92, 62, 67, 77: the last has one node
        is("drawn(9)", two.drawn(9), 17);
        is("seed behind drawn(9)", two.seed(0), 8905969151499887831L);
        are("drawn() paints nothing", two, "00");
        is("drawn() is no doing", two.about(7), 0);
        ShadeTree three = shown("P431909");
        three.seed(10);
        is("drawn(1), negative", three.drawn(1), 2);
        three.seed(2);
        is("drawn(1), sifted", three.drawn(1), 1);
        ShadeTree four = shown("P4419909");
        four.seed(2);
        is("drawn(1), sifted by 2", four.drawn(1), 2);
        three.seed(3);
        is("drawn(0)", three.drawn(0), ShadeTree.BAD);
        is("drawn(21)", three.drawn(21), ShadeTree.BAD);
        is("drawn(-1)", three.drawn(-1), ShadeTree.BAD);
        is("seed behind refused ones", three.seed(0), 3);
    }

    // ---- 26, 27
    private static void keepAndAgain() {
        ShadeTree x = four();
        is("keep(2)", x.keep(2), ShadeTree.UNKNOWN);
        is("keep(-1)", x.keep(-1), ShadeTree.UNKNOWN);
        is("again(2)", x.again(2), ShadeTree.UNKNOWN);
        is("again(-1)", x.again(-1), ShadeTree.UNKNOWN);
        is("again(0), none kept", x.again(0), ShadeTree.LATE);
        is("keep(0)", x.keep(0), 6);
        is("again(1), none kept", x.again(1), ShadeTree.LATE);
        x.sift(0, 8);
        is("keep(1)", x.keep(1), 1);
        is("doings behind keep()", x.about(7), 1);
        x.see(0, 1, 1);
        x.seed(4);
        is("again(0)", x.again(0), 6);
        are("again(0)", x, FIGURES);
        is("doings behind again()", x.about(7), 0);
        is("undo() behind again()", x.undo(), ShadeTree.LATE);
        is("seen behind again()", x.about(8), 1);
        is("seed behind again()", x.seed(0), 4);
        x.paint(0, 9);
        is("again(1)", x.again(1), 1);
        are("again(1)", x, "000000000000");
        x.paint(0, 9);
        is("again(0) once more", x.again(0), 6);
        are("what is kept is not painted", x, FIGURES);
        x.paint(0, 9);
        x.keep(0);
        x.paint(0, 8);
        x.undo();
        x.again(0);
        are("kept anew", x, "950901113070");
    }

    /** Calls that are refused, on an object with something of everything. */
    private static void refusedChangesNothing() {
        ShadeTree x = four();
        x.paint(0, 9);
        x.keep(0);
        x.negative();
        x.see(0, 1, 1);
        x.seed(12);
        x.write('0');
        for (int wrong : WRONG) {
            x.write(wrong);
            x.paint(wrong, 1);
            x.paint(1, wrong);
            x.sift(wrong, 1);
            x.sift(0, wrong);
            x.sift(1, wrong);
            x.judge(wrong, 2000);
            x.see(wrong, 0, 1);
            x.see(0, wrong, 1);
            x.see(0, 0, wrong);
            x.drawn(wrong);
            x.keep(wrong);
            x.again(wrong);
            x.again(1);
            x.picture();
        }
        are("refused", x, "049098886929");
        is("refused: light", x.about(6), 72);
        is("refused: doings", x.about(7), 2);
        is("refused: seen", x.about(8), 1);
        is("refused: letters", x.about(9), 17);
        is("refused: seed", x.seed(0), 12);
        is("refused: ways(0)", x.ways(0), 2);
        is("refused: undo()", x.undo(), 1);
        are("refused, undone", x, "950901113070");
        is("refused: undo()", x.undo(), 0);
        is("refused: again(0)", x.again(0), 7);
        are("refused, again", x, "950901113070");
    }
}
