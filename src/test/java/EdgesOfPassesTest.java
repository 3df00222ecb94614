/** The boundary cases of promises 15 to 19: passes, growth, told doings judged, shares of rows. */
public final class EdgesOfPassesTest {
    private static final int UNKNOWN = ShadeTree.UNKNOWN;
    private static final int BAD = ShadeTree.BAD;
    private static final int NONE = ShadeTree.NONE;
    private static final int LEAST = Integer.MIN_VALUE;
    private static final int GREATEST = Integer.MAX_VALUE;
    private static final String BOARD = "909090090909".repeat(3);
    /** Levels 9, 8, .. 5 in a row, and one dark dot behind them. */
    private static final String STEPS = "P461" + "987650";

    private static final Sentences doc = new Sentences();

    public static void main(String[] args) {
        passRange();
        passLeastAndGreatest();
        growsRange();
        growsDownToZero();
        growsFractions();
        steadyRange();
        steadyByParent();
        steadyByChildren();
        judgeCount();
        judgeRow();
        judgePlaces();
        judgePainted();
        judgeNegative();
        judgeSifted();
        judgeSieved();
        judgeParent();
        judgeParts();
        judgeRise();
        judgeOther();
        judgeOneBehindAnother();
        shareRange();
        shareOfOthersNotThere();
        shareFractions();
        doc.end(15, 19);
    }

    // ---- 15

    private static void passRange() {
        doc.of(15, "PASS. UNKNOWN: both.");
        ShadeTree x = Pictures.four();
        for (int wrong : new int[] {-1, 12, LEAST, GREATEST}) {
            doc.is("pass(" + wrong + ", 0)", x.pass(wrong, 0), UNKNOWN);
            doc.is("pass(0, " + wrong + ")", x.pass(0, wrong), UNKNOWN);
            doc.is("pass(" + wrong + ", 11)", x.pass(wrong, 11), UNKNOWN);
            doc.is("pass(11, " + wrong + ")", x.pass(11, wrong), UNKNOWN);
            doc.is("pass(" + wrong + ", " + wrong + ")", x.pass(wrong, wrong), UNKNOWN);
        }
        doc.is("pass(0, 11)", x.pass(0, 11), 0);
        doc.is("pass(11, 0)", x.pass(11, 0), 0);
        ShadeTree y = Pictures.shown("P466" + "7".repeat(36));
        doc.is("pass(0, 35) of 36", y.pass(0, 35), 7);
        doc.is("pass(0, 36) of 36", y.pass(0, 36), UNKNOWN);
        doc.is("pass(36, 35) of 36", y.pass(36, 35), UNKNOWN);
        doc.is("pass(0, 64) of 36", y.pass(0, 64), UNKNOWN);
    }

    private static void passLeastAndGreatest() {
        doc.of(15, "PASS of two DOTS: the greatest t at which both are in one PART.");
        for (int v = 0; v <= 9; v++) {
            doc.is("pass(0, 0) of a dot of " + v, Pictures.shown("P411" + v).pass(0, 0), v);
            doc.is("pass(0, 1) of two dots of " + v, Pictures.shown("P421" + v + v).pass(0, 1), v);
            doc.is("pass(0, 1) of 9 and " + v, Pictures.shown("P4219" + v).pass(0, 1), v);
            doc.is("pass(0, 2) over " + v, Pictures.shown("P4319" + v + "9").pass(0, 2), v);
        }
        doc.is("by 4: pass(0, 3) over corners", Pictures.shown("P4229009").pass(0, 3), 0);
        doc.is("by 8: pass(0, 3) over corners", Pictures.shown("P8229009").pass(0, 3), 9);
        // over 2 or, further, over 6
        doc.is("pass(0, 2): the brightest way", Pictures.shown("P432" + "929" + "666").pass(0, 2), 6);
    }

    // ---- 16

    private static void grows(String letters, int dot, int d, int above, int below) {
        ShadeTree x = Pictures.shown(letters);
        String call = letters + ", grows(" + dot + ", " + d;
        doc.is(call + ", true)", x.grows(dot, d, true), above);
        doc.is(call + ", false)", x.grows(dot, d, false), below);
    }

    private static void growsRange() {
        doc.of(16, "GROWS, of THE NODE of a DOT. UNKNOWN; BAD: d.");
        ShadeTree x = Pictures.shown(STEPS);
        for (boolean upper : new boolean[] {true, false}) {
            for (int d : new int[] {-1, 0, 10, LEAST, GREATEST}) {
                doc.is("grows(0, " + d + ")", x.grows(0, d, upper), BAD);
                doc.is("grows(5, " + d + ")", x.grows(5, d, upper), BAD);
                doc.is("grows(6, " + d + "), unknown first", x.grows(6, d, upper), UNKNOWN);
                doc.is("grows(-1, " + d + "), unknown first", x.grows(-1, d, upper), UNKNOWN);
            }
            for (int dot : new int[] {-1, 6, LEAST, GREATEST}) {
                doc.is("grows(" + dot + ", 1)", x.grows(dot, 1, upper), UNKNOWN);
                doc.is("grows(" + dot + ", 9)", x.grows(dot, 9, upper), UNKNOWN);
            }
        }
        doc.of(16, "GROWS of a NODE by d (1 .. 9)");
        int[] more = {1, 2, 3, 4, 4, 4, 4, 4, 5};
        for (int d = 1; d <= 9; d++) {
            grows(STEPS, 0, d, more[d - 1], 1);
        }
    }

    private static void growsDownToZero() {
        doc.of(16, "how many DOTS the PART at its LEVEL less d (0 at least) that holds it has more"
                + " than it, by its AREA: a FRACTION.");
        // LEVEL 5: less 4 is 1, less 5 is 0, less 6 .. 9 would be below
        grows(STEPS, 4, 4, 0, 1);
        for (int d = 5; d <= 9; d++) {
            grows(STEPS, 4, d, 1, 5);
        }
        // LEVEL 0
        for (int d = 1; d <= 9; d++) {
            grows(STEPS, 5, d, 0, 1);
            grows("P4110", 0, d, 0, 1);
            grows("P4119", 0, d, 0, 1);
        }
        // all dots have LEVEL 4: the PARTS at 0 .. 4 are the same
        grows("P42147", 1, 2, 0, 1);
        grows("P42147", 1, 3, 1, 1);
        grows("P42147", 1, 9, 1, 1);
        grows("P42147", 0, 9, 0, 1);
    }

    private static void growsFractions() {
        doc.of(16, "FRACTIONS are told above (upper = true; less than 0, if they are), below, in"
                + " least terms.");
        grows("P466" + "9" + "0".repeat(35), 0, 9, 35, 1);
        grows("P466" + "9".repeat(35) + "0", 0, 9, 1, 35);
        grows("P466" + "9".repeat(18) + "0".repeat(18), 0, 9, 1, 1);
        grows("P466" + "9".repeat(12) + "0".repeat(24), 0, 9, 2, 1);
        grows("P466" + "9".repeat(24) + "0".repeat(12), 0, 9, 1, 2);
        grows("P466" + "9".repeat(20) + "0".repeat(16), 0, 9, 4, 5);
        grows("P466" + "9".repeat(36), 0, 9, 0, 1);
    }

    // ---- 17

    private static void steadyRange() {
        doc.of(17, "1 if THE NODE of a DOT is STEADY by d, 0. UNKNOWN; BAD: d.");
        ShadeTree x = Pictures.shown(STEPS);
        for (int d : new int[] {-1, 0, 10, LEAST, GREATEST}) {
            doc.is("steady(0, " + d + ")", x.steady(0, d), BAD);
            doc.is("steady(5, " + d + ")", x.steady(5, d), BAD);
            doc.is("steady(6, " + d + "), unknown first", x.steady(6, d), UNKNOWN);
            doc.is("steady(-1, " + d + "), unknown first", x.steady(-1, d), UNKNOWN);
        }
        for (int dot : new int[] {-1, 6, LEAST, GREATEST}) {
            doc.is("steady(" + dot + ", 1)", x.steady(dot, 1), UNKNOWN);
            doc.is("steady(" + dot + ", 9)", x.steady(dot, 9), UNKNOWN);
        }
        doc.is("steady(5, 1): all dots", x.steady(5, 1), 1);
        doc.is("steady(5, 9): all dots", x.steady(5, 9), 1);
        // LEVEL 5 grows by 0 up to 4, by 1/5 from 5 on; all dots by 0
        doc.is("steady(4, 1)", x.steady(4, 1), 1);
        doc.is("steady(4, 4)", x.steady(4, 4), 1);
        doc.is("steady(4, 5)", x.steady(4, 5), 0);
        doc.is("steady(4, 9)", x.steady(4, 9), 0);
    }

    private static void steadyByParent() {
        doc.of(17, "if it GROWS by d no more than its PARENT does (if it has one)");
        doc.is("steady(0, 1) of one dot: no PARENT, no CHILD", new ShadeTree().steady(0, 1), 1);
        doc.is("steady(0, 9) of one dot", new ShadeTree().steady(0, 9), 1);
        doc.is("steady(0, 1): 1 as its PARENT", Pictures.shown("P4413211").steady(0, 1), 1);
        // {0} 1/1, {0, 1} 3/2
        doc.is("steady(0, 1): 1, its PARENT 3/2", Pictures.shown("P45132111").steady(0, 1), 1);
        // {0} 1/1, {0, 1} 1/2
        doc.is("steady(0, 1): 1, its PARENT 1/2", Pictures.shown("P431321").steady(0, 1), 0);
        // {0} 2/1, {0, 1, 2} 5/3 and 6/3
        doc.is("steady(0, 1): 2, its PARENT 5/3",
                Pictures.shown("P442" + "3221" + "1111").steady(0, 1), 0);
        doc.is("steady(0, 1): 2, its PARENT 6/3",
                Pictures.shown("P433" + "322" + "111" + "111").steady(0, 1), 1);
    }

    private static void steadyByChildren() {
        doc.of(17, "nor than any CHILD.");
        // {0} 1/1, {0, 1} 2/2, {0 .. 3} 4/4, all dots 0
        ShadeTree even = Pictures.shown("P442" + "4322" + "1111");
        doc.is("steady(1, 1): 1, as PARENT and CHILD", even.steady(1, 1), 1);
        doc.is("steady(2, 1): 1, all dots 0", even.steady(2, 1), 0);
        // {0, 1, 2} at 3: 1/3; {0, 1, 2, 3} at 2: 2/4; the children grow by 2, or not at all
        doc.is("steady(1, 1): two children that grow more", Pictures.shown("P461434211").steady(1, 1), 1);
        doc.is("steady(1, 1): the last child grows less", Pictures.shown("P461439211").steady(1, 1), 0);
        doc.is("steady(1, 1): the first child grows less", Pictures.shown("P461934211").steady(1, 1), 0);
        // dot 0 alone is the child: {0, 1} at 6 grows by 1/2, dot 0 at 8 not at all
        doc.is("steady(1, 1): dot 0 grows less", Pictures.shown("P461865444").steady(1, 1), 0);
        // 7/5 at 6 is less than 24/12 at 5, but more than 1/4 at 7
        doc.is("steady(4, 1): a child one shade above grows less",
                Pictures.shown("P466" + "777765" + "555555" + "4".repeat(24)).steady(4, 1), 0);
        doc.is("steady(5, 9): all dots grow by 0", Pictures.shown("P461434210").steady(5, 9), 1);
    }

    // ---- 18

    private static void judged(String letters, int n, long row, int want) {
        ShadeTree x = Pictures.shown(letters);
        doc.is(letters + ", judge(" + n + ", " + row + ")", x.judge(n, row), want);
    }

    private static void judged(int n, long row, int want) {
        judged("P443" + Pictures.FIGURES, n, row, want);
    }

    private static void judgeCount() {
        doc.of(18, "JUDGED; NONE. BAD: n");
        for (int n : new int[] {0, -1, 5, LEAST, GREATEST}) {
            for (long row : new long[] {-1, 0, 2000, 2000_2000L}) {
                judged(n, row, BAD);
            }
        }
        doc.of(18, "JUDGED: n doings (1 .. 4), told as four figures each");
        judged(1, 2000, NONE);
        judged(2, 2000_2000, NONE);
        judged(3, 2000_2000_2000L, NONE);
        judged(4, 2000_2000_2000_2000L, NONE);
    }

    private static void judgeRow() {
        doc.of(18, ", row (0 or more, 4 n figures at most).");
        long beyond = 1;
        for (int n = 1; n <= 4; n++) {
            beyond *= 10000;
            judged(n, -1, BAD);
            judged(n, 0, 0);
            judged(n, beyond - 1, 0);
            judged(n, beyond, BAD);
            judged(n, beyond + 2000, BAD);
            judged(n, Long.MIN_VALUE, BAD);
            judged(n, Long.MAX_VALUE, BAD);
        }
        // the last four figures alone would be fine
        judged(1, 1_2000, BAD);
        judged(1, (1L << 32) + 2000, BAD);
        judged(1, (1L << 32) * 10000 + 2000, BAD);
        // fewer figures: those ahead are 0
        judged(2, 2000, 0);
        judged(3, 2000_2000, 0);
        judged(4, 2000_2000_2000L, 0);
    }

    private static void judgePlaces() {
        doc.of(18, "the place of the first that can not be (or is not so); NONE: none.");
        judged(4, 8000_2000_2000_2000L, 0);
        judged(4, 2000_8000_2000_2000L, 1);
        judged(4, 2000_2000_8000_2000L, 2);
        judged(4, 2000_2000_2000_8000L, 3);
        judged(4, 2000_8000_8000_8000L, 1);
        judged(4, 6020_8000_2000_2000L, 0);
        judged(4, 2000_2000_6020_8000L, 2);
        judged(1, 8000, 0);
        judged(2, 2000_8000, 1);
        judged(3, 2000_2000_8000L, 2);
    }

    private static void judgePainted() {
        doc.of(18, "(1, two figures a DOT, v: PAINTED");
        judged(1, 1000, NONE);
        judged(1, 1009, NONE);
        judged(1, 1005, NONE);
        judged(1, 1119, NONE);
        judged(1, 1120, 0);
        judged(1, 1129, 0);
        judged(1, 1999, 0);
        judged("P4110", 1, 1009, NONE);
        judged("P4110", 1, 1010, 0);
        judged("P466" + BOARD, 1, 1359, NONE);
        judged("P466" + BOARD, 1, 1360, 0);
        // only dot 3 is of 9 at first; dot 0 is the second one
        judged(1, 6029, 0);
        judged(2, 1009_6029, NONE);
        judged(2, 1030_6019, 1);
    }

    private static void judgeNegative() {
        doc.of(18, "2, 0, 0, 0: NEGATIVE");
        judged(1, 2000, NONE);
        judged(1, 2001, 0);
        judged(1, 2010, 0);
        judged(1, 2100, 0);
        judged(1, 2009, 0);
        judged(1, 2999, 0);
        judged(2, 2000_6049, NONE);
        judged(2, 2000_6059, 1);
        judged(3, 2000_2000_6029L, 2);
    }

    private static void judgeSifted() {
        doc.of(18, "3, two figures n, 0: SIFTED");
        judged(1, 3000, 0);
        judged(1, 3010, NONE);
        judged(1, 3360, NONE);
        judged(1, 3370, 0);
        judged(1, 3990, 0);
        judged(1, 3011, 0);
        judged(1, 3019, 0);
        judged("P4110", 1, 3360, NONE);
        // two parts at 7 at first; AREA 2 stays at 5, AREA 7 at 1
        judged(2, 3010_6027, NONE);
        judged(2, 3020_6027, 1);
        judged(2, 3020_6015, NONE);
        judged(2, 3030_6015, 1);
        judged(2, 3070_6011, NONE);
        judged(2, 3080_6011, 1);
    }

    private static void judgeSieved() {
        doc.of(18, "4, 0, n, 0: SIEVED");
        judged(1, 4000, 0);
        judged(1, 4010, NONE);
        judged(1, 4060, NONE);
        judged(1, 4070, 0);
        judged(1, 4090, 0);
        judged(1, 4100, 0);
        judged(1, 4110, 0);
        judged(1, 4160, 0);
        judged(1, 4360, 0);
        judged(1, 4011, 0);
        judged("P4110", 1, 4060, NONE);
        // at 5 a BOX of 2 columns, at 1 one of 4 columns
        judged(2, 4010_6027, NONE);
        judged(2, 4020_6015, NONE);
        judged(2, 4030_6015, 1);
        judged(2, 4040_6011, NONE);
        judged(2, 4050_6011, 1);
    }

    private static void judgeParent() {
        doc.of(18, "5, two figures a DOT, v: the LEVEL of its PARENT is v");
        for (int v = 0; v <= 9; v++) {
            judged(1, 5030 + v, v == 1 ? NONE : 0);
            judged(1, 5080 + v, v == 0 ? NONE : 0);
            // all dots: no PARENT, so that no v is its LEVEL
            judged(1, 5020 + v, 0);
            judged(1, 5110 + v, 0);
            // no such dot
            judged(1, 5120 + v, 0);
            judged(1, 5990 + v, 0);
            judged("P42198", 1, 5000 + v, v == 8 ? NONE : 0);
            judged("P42198", 1, 5010 + v, 0);
        }
    }

    private static void judgeParts() {
        doc.of(18, "6, two figures v, t: there are v PARTS at t or more");
        int[] parts = {1, 2, 4, 4, 3, 3, 2, 2, 1, 1};
        for (int t = 0; t <= 9; t++) {
            for (int v = 0; v <= 6; v++) {
                judged(1, 6000 + 10 * v + t, v <= parts[t] ? NONE : 0);
            }
            judged(1, 6360 + t, 0);
            judged(1, 6990 + t, 0);
        }
        judged("P4110", 1, 6001, NONE);
        judged("P4110", 1, 6011, 0);
        judged("P4110", 1, 6010, NONE);
        judged("P466" + BOARD, 1, 6189, NONE);
        judged("P466" + BOARD, 1, 6199, 0);
    }

    private static void judgeRise() {
        doc.of(18, "7, two figures a DOT, v: its RISE is v)");
        for (int v = 0; v <= 9; v++) {
            judged(1, 7100 + v, v == 6 ? NONE : 0);
            // nothing is brighter, so that no v is the RISE
            judged(1, 7030 + v, 0);
            judged(1, 7110 + v, 0);
            // no such dot
            judged(1, 7120 + v, 0);
            judged(1, 7990 + v, 0);
            judged("P431809", 1, 7000 + v, v == 8 ? NONE : 0);
            judged("P431879", 1, 7000 + v, v == 1 ? NONE : 0);
        }
    }

    private static void judgeOther() {
        doc.of(18, "told as four figures each (1, two figures a DOT");
        for (int told : new int[] {0, 1, 9, 10, 100, 999, 8000, 8010, 9000, 9999}) {
            judged(1, told, 0);
            judged(2, 2000_0000 + told, 1);
        }
    }

    private static void judgeOneBehindAnother() {
        doc.of(18, "In what follows nothing is changed.");
        ShadeTree x = Pictures.four();
        doc.is("judge(): painted away", x.judge(4, 1030_1100_1000_1010L), NONE);
        doc.is("judge(): it is still there", x.judge(1, 6019), NONE);
        doc.is("judge(): refused on its way", x.judge(2, 1030_8000), 1);
        doc.is("judge(): it is still there", x.judge(1, 6019), NONE);
        doc.shades("what is judged is not done", x, Pictures.FIGURES);
        doc.is("about(7)", x.about(7), 0);
        x.paint(0, 9);
        doc.is("judge() of the picture as it is now", x.judge(1, 6029), NONE);
    }

    // ---- 19

    private static void share(String letters, int row, int t, int above, int below) {
        ShadeTree x = Pictures.shown(letters);
        String call = letters + ", share(" + row + ", " + t;
        doc.is(call + ", true)", x.share(row, t, true), above);
        doc.is(call + ", false)", x.share(row, t, false), below);
    }

    private static void shareRange() {
        doc.of(19, "SHARE. UNKNOWN: row; BAD: t (0 .. 9).");
        ShadeTree x = Pictures.four();
        for (boolean upper : new boolean[] {true, false}) {
            for (int t : new int[] {-1, 10, LEAST, GREATEST}) {
                doc.is("share(0, " + t + ")", x.share(0, t, upper), BAD);
                doc.is("share(2, " + t + ")", x.share(2, t, upper), BAD);
                doc.is("share(3, " + t + "), unknown first", x.share(3, t, upper), UNKNOWN);
                doc.is("share(-1, " + t + "), unknown first", x.share(-1, t, upper), UNKNOWN);
            }
            for (int row : new int[] {-1, 3, LEAST, GREATEST}) {
                doc.is("share(" + row + ", 0)", x.share(row, 0, upper), UNKNOWN);
                doc.is("share(" + row + ", 9)", x.share(row, 9, upper), UNKNOWN);
            }
            // rows are counted, not columns
            ShadeTree wide = Pictures.shown("P461" + "909090");
            doc.is("share(1, 9) of one row", wide.share(1, 9, upper), UNKNOWN);
            ShadeTree high = Pictures.shown("P416" + "909090");
            doc.is("share(6, 9) of six rows", high.share(6, 9, upper), UNKNOWN);
            doc.is("share(5, 9) of six rows, a dark one", high.share(5, 9, upper), upper ? 0 : 1);
        }
        share("P461909090", 0, 9, 3, 1);
        share("P461909090", 0, 0, 1, 1);
        share("P4110", 0, 0, 1, 1);
        share("P4110", 0, 1, 0, 1);
        share("P4119", 0, 9, 1, 1);
    }

    private static void shareOfOthersNotThere() {
        doc.of(19, "if rows come one by one, in each order as likely (DOTS of others are not there at"
                + " all): by how many PARTS at t in the mean there are more when it has come than"
                + " there were: a FRACTION.");
        // at 0, too, a row that has not come joins nothing
        share("P41200", 0, 0, 1, 2);
        share("P41200", 1, 0, 1, 2);
        share("P413000", 0, 0, 1, 2);
        share("P413000", 1, 0, 0, 1);
        share("P413000", 2, 0, 1, 2);
        // six rows, 720 orders
        share("P466" + "9".repeat(36), 0, 9, 1, 2);
        share("P466" + "9".repeat(36), 1, 9, 0, 1);
        share("P466" + "9".repeat(36), 5, 9, 1, 2);
        // by 4 no two of a board hang together; by 8 all of them do
        share("P466" + BOARD, 0, 9, 3, 1);
        share("P466" + BOARD, 5, 9, 3, 1);
        share("P4229009", 0, 9, 1, 1);
        share("P8229009", 0, 9, 1, 2);
    }

    private static void shareFractions() {
        doc.of(19, "FRACTIONS are told above (upper = true; less than 0, if they are), below, in"
                + " least terms.");
        // alone it brings 1 part, behind the other row it makes 1 of 3
        share("P452" + "90909" + "99999", 1, 9, -1, 2);
        share("P452" + "90909" + "99999", 0, 9, 3, 2);
        // 1 as the first one, -1 as the second, -3 as the last
        share("P433" + "909" + "999" + "909", 1, 9, -1, 1);
        share("P433" + "909" + "999" + "909", 0, 9, 1, 1);
        // 2 as the first one, 0 as the second, -1 as the last
        share("P433" + "999" + "909" + "999", 1, 9, 1, 3);
        share("P433" + "999" + "909" + "999", 0, 9, 1, 3);
        // nothing at 9
        share("P433" + "111" + "111" + "111", 1, 9, 0, 1);
    }
}
