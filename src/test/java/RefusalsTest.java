import java.util.function.Supplier;
import java.util.function.ToLongFunction;

/**
 * Part 4 of the document: which refusal is told, which of several first, and that a refused call
 * changes nothing. The same is held of calls that only ask. Each call is made on an object of its
 * own, whose probe must then be that of an object without the call.
 */
public final class RefusalsTest {
    private static final int UNKNOWN = ShadeTree.UNKNOWN;
    private static final int BAD = ShadeTree.BAD;
    private static final int LATE = ShadeTree.LATE;
    private static final int FULL = ShadeTree.FULL;
    private static final int[] NO_DOT = {Integer.MIN_VALUE, -1, 12, 36, Integer.MAX_VALUE};
    private static final int[] NO_ROW = {Integer.MIN_VALUE, -1, 3, 6, Integer.MAX_VALUE};
    private static final int[] NO_SLOT = {Integer.MIN_VALUE, -1, 2, Integer.MAX_VALUE};
    private static final int[] NO_SHADE = {Integer.MIN_VALUE, -1, 10, Integer.MAX_VALUE};
    private static final int[] NO_STEP = {Integer.MIN_VALUE, -1, 0, 10, Integer.MAX_VALUE};
    private static final int[] NO_BIT = {Integer.MIN_VALUE, -1, 2, Integer.MAX_VALUE};

    private static final Sentences doc = new Sentences();

    private final String name;
    private final Supplier<ShadeTree> make;
    private final String probe;

    private RefusalsTest(String name, Supplier<ShadeTree> make) {
        this.name = name;
        this.make = make;
        this.probe = Probe.of(make.get());
    }

    public static void main(String[] args) {
        numbers();
        RefusalsTest full = new RefusalsTest("full", RefusalsTest::full);
        RefusalsTest half = new RefusalsTest("half full", RefusalsTest::half);
        RefusalsTest bare = new RefusalsTest("bare", RefusalsTest::bare);
        for (RefusalsTest state : new RefusalsTest[] {full, half, bare}) {
            state.refusedDots();
            state.refusedRowsAndSlots();
            state.refusedNumbers();
            state.refusedTold();
            state.severalRefusals();
            state.questions();
        }
        full.fullOnes();
        half.lateOnes();
        bare.lateOnes();
        bare.emptyOnes();
        aNewObjectRefuses();
        // the promises' own words are taken on by the tests of the edges
        doc.end(1, 0);
    }

    // ---- objects of 12 dots, with all they can hold, with some of it, with nothing

    private static ShadeTree full() {
        ShadeTree x = Pictures.four();
        x.keep(0);
        x.negative();
        x.keep(1);
        for (int i = 1; i <= 14; i++) {
            x.paint(i % 12, i % 10);
        }
        for (int count = 1; count <= 6; count++) {
            x.see(0, count, count % 2);
        }
        x.seed(-12345678901L);
        Pictures.tell(x, "P866" + "0123456789".repeat(4).substring(0, 36));
        return x;
    }

    private static ShadeTree half() {
        ShadeTree x = Pictures.eight();
        x.sift(0, 2);
        x.keep(0);
        x.paint(3, 9);
        x.see(0, 3, 0);
        x.seed(77);
        Pictures.tell(x, "P4221");
        return x;
    }

    private static ShadeTree bare() {
        ShadeTree x = Pictures.four();
        x.wipe();
        return x;
    }

    // ---- one call on an object of its own

    private void refused(String call, ToLongFunction<ShadeTree> asked, long want) {
        ShadeTree x = make.get();
        doc.is(name + ": " + call, asked.applyAsLong(x), want);
        doc.same(name + ": what is there behind " + call, Probe.of(x), probe);
    }

    private void question(String call, ToLongFunction<ShadeTree> asked) {
        ShadeTree x = make.get();
        long first = asked.applyAsLong(x);
        doc.is(name + ": " + call + " once more", asked.applyAsLong(x), first);
        doc.same(name + ": what is there behind " + call, Probe.of(x), probe);
    }

    // ---- each refusal alone

    private static void numbers() {
        doc.of(1, "REFUSALS: UNKNOWN -1 (there is no such DOT, row, SLOT), BAD -2, LATE -3, FULL -4.");
        doc.is("UNKNOWN", UNKNOWN, -1);
        doc.is("BAD", BAD, -2);
        doc.is("LATE", LATE, -3);
        doc.is("FULL", FULL, -4);
        doc.of(1, "NONE is -9.");
        doc.is("NONE", ShadeTree.NONE, -9);
    }

    private static void about(int promise) {
        doc.of(promise, "What is refused changes nothing.");
    }

    private void refusedDots() {
        for (int dot : NO_DOT) {
            about(7);
            refused("shade(" + dot + ")", x -> x.shade(dot), UNKNOWN);
            about(8);
            refused("node(" + dot + ", 0)", x -> x.node(dot, 0), UNKNOWN);
            about(9);
            refused("dots(" + dot + ")", x -> x.dots(dot), UNKNOWN);
            about(11);
            refused("paint(" + dot + ", 1)", x -> x.paint(dot, 1), UNKNOWN);
            about(15);
            refused("pass(" + dot + ", 0)", x -> x.pass(dot, 0), UNKNOWN);
            refused("pass(0, " + dot + ")", x -> x.pass(0, dot), UNKNOWN);
            about(16);
            refused("grows(" + dot + ", 1)", x -> x.grows(dot, 1, true), UNKNOWN);
            about(17);
            refused("steady(" + dot + ", 1)", x -> x.steady(dot, 1), UNKNOWN);
            about(20);
            refused("see(" + dot + ", 0, 1)", x -> x.see(dot, 0, 1), UNKNOWN);
            refused("see(0, " + dot + ", 1)", x -> x.see(0, dot, 1), UNKNOWN);
        }
    }

    private void refusedRowsAndSlots() {
        for (int row : NO_ROW) {
            about(19);
            refused("share(" + row + ", 1)", x -> x.share(row, 1, true), UNKNOWN);
            about(23);
            refused("fades(" + row + ", 1, 1, 1)", x -> x.fades(row, 1, 1, 1, true), UNKNOWN);
        }
        for (int slot : NO_SLOT) {
            about(26);
            refused("keep(" + slot + ")", x -> x.keep(slot), UNKNOWN);
            about(27);
            refused("again(" + slot + ")", x -> x.again(slot), UNKNOWN);
        }
    }

    private void refusedNumbers() {
        for (int letter : new int[] {Integer.MIN_VALUE, -1, 256, Integer.MAX_VALUE}) {
            about(2);
            refused("write(" + letter + ")", x -> x.write(letter), BAD);
        }
        for (int wrong : NO_SHADE) {
            about(6);
            refused("about(" + wrong + ")", x -> x.about(wrong), BAD);
            about(8);
            refused("node(0, " + wrong + ")", x -> x.node(0, wrong), BAD);
            about(10);
            refused("parts(" + wrong + ")", x -> x.parts(wrong), BAD);
            about(11);
            refused("paint(0, " + wrong + ")", x -> x.paint(0, wrong), BAD);
            about(19);
            refused("share(0, " + wrong + ")", x -> x.share(0, wrong, false), BAD);
        }
        for (int wrong : NO_STEP) {
            about(16);
            refused("grows(0, " + wrong + ")", x -> x.grows(0, wrong, false), BAD);
            about(17);
            refused("steady(0, " + wrong + ")", x -> x.steady(0, wrong), BAD);
            about(23);
            refused("fades(0, " + wrong + ", 1, 1)", x -> x.fades(0, wrong, 1, 1, true), BAD);
        }
        for (int wrong : NO_BIT) {
            about(13);
            refused("sift(" + wrong + ", 1)", x -> x.sift(wrong, 1), BAD);
            about(20);
            refused("see(0, 1, " + wrong + ")", x -> x.see(0, 1, wrong), BAD);
            about(22);
            refused("ways(" + wrong + ")", x -> x.ways(wrong), BAD);
        }
        for (int wrong : new int[] {Integer.MIN_VALUE, -1, 37, Integer.MAX_VALUE}) {
            about(13);
            refused("sift(0, " + wrong + ")", x -> x.sift(0, wrong), BAD);
            refused("sift(1, " + wrong + ")", x -> x.sift(1, wrong), BAD);
            about(23);
            refused("fades(0, 1, " + wrong + ", 1)", x -> x.fades(0, 1, wrong, 1, true), BAD);
            refused("fades(0, 1, 1, " + wrong + ")", x -> x.fades(0, 1, 1, wrong, true), BAD);
            about(25);
            refused("drawn(" + wrong + ")", x -> x.drawn(wrong), BAD);
        }
        about(13);
        refused("sift(0, 0)", x -> x.sift(0, 0), BAD);
        refused("sift(1, 0)", x -> x.sift(1, 0), BAD);
        refused("sift(1, 7)", x -> x.sift(1, 7), BAD);
        about(25);
        refused("drawn(0)", x -> x.drawn(0), BAD);
        refused("drawn(21)", x -> x.drawn(21), BAD);
    }

    private void refusedTold() {
        about(18);
        for (int n : new int[] {Integer.MIN_VALUE, -1, 0, 5, Integer.MAX_VALUE}) {
            refused("judge(" + n + ", 2000)", x -> x.judge(n, 2000), BAD);
        }
        for (long row : new long[] {Long.MIN_VALUE, -1, 10000, Long.MAX_VALUE}) {
            refused("judge(1, " + row + ")", x -> x.judge(1, row), BAD);
        }
        refused("judge(4, 10^16)", x -> x.judge(4, 10000000000000000L), BAD);
    }

    // ---- of several the one that the document tells first

    private void severalRefusals() {
        doc.of(8, "Of several what is told first.");
        refused("node(12, 10)", x -> x.node(12, 10), UNKNOWN);
        refused("node(-1, -1)", x -> x.node(-1, -1), UNKNOWN);
        doc.of(11, "Of several what is told first.");
        refused("paint(12, 10)", x -> x.paint(12, 10), UNKNOWN);
        refused("paint(-1, -1)", x -> x.paint(-1, -1), UNKNOWN);
        doc.of(16, "Of several what is told first.");
        refused("grows(12, 0)", x -> x.grows(12, 0, true), UNKNOWN);
        refused("grows(-1, 10)", x -> x.grows(-1, 10, false), UNKNOWN);
        doc.of(17, "Of several what is told first.");
        refused("steady(12, 0)", x -> x.steady(12, 0), UNKNOWN);
        refused("steady(-1, 10)", x -> x.steady(-1, 10), UNKNOWN);
        doc.of(19, "Of several what is told first.");
        refused("share(3, 10)", x -> x.share(3, 10, true), UNKNOWN);
        refused("share(-1, -1)", x -> x.share(-1, -1, false), UNKNOWN);
        doc.of(20, "Of several what is told first.");
        refused("see(12, 0, 2)", x -> x.see(12, 0, 2), UNKNOWN);
        refused("see(0, -1, -1)", x -> x.see(0, -1, -1), UNKNOWN);
        refused("see(0, 1, 2)", x -> x.see(0, 1, 2), BAD);
        doc.of(23, "Of several what is told first.");
        refused("fades(3, 0, 1, 1)", x -> x.fades(3, 0, 1, 1, true), UNKNOWN);
        refused("fades(3, 1, 37, 1)", x -> x.fades(3, 1, 37, 1, true), UNKNOWN);
        refused("fades(-1, 1, 1, 11)", x -> x.fades(-1, 1, 1, 11, true), UNKNOWN);
        refused("fades(-1, 10, -1, -1)", x -> x.fades(-1, 10, -1, -1, true), UNKNOWN);
        doc.of(2, "Of several what is told first.");
        refused("write(256)", x -> x.write(256), BAD);
    }

    // ---- refusals that hang on what there is

    private void fullOnes() {
        about(2);
        refused("write('0')", x -> x.write('0'), FULL);
        refused("write(0)", x -> x.write(0), FULL);
        refused("write(255)", x -> x.write(255), FULL);
        about(20);
        refused("see(0, 1, 0)", x -> x.see(0, 1, 0), FULL);
        refused("see(11, 11, 1)", x -> x.see(11, 11, 1), FULL);
    }

    private void lateOnes() {
        about(5);
        refused("picture()", ShadeTree::picture, LATE);
        about(27);
        refused("again(1)", x -> x.again(1), LATE);
    }

    private void emptyOnes() {
        about(14);
        refused("undo()", ShadeTree::undo, LATE);
        about(27);
        refused("again(0)", x -> x.again(0), LATE);
    }

    private static void aNewObjectRefuses() {
        RefusalsTest fresh = new RefusalsTest("new", ShadeTree::new);
        fresh.lateOnes();
        fresh.emptyOnes();
        about(11);
        fresh.refused("paint(1, 5)", x -> x.paint(1, 5), UNKNOWN);
        fresh.refused("paint(0, 10)", x -> x.paint(0, 10), BAD);
        about(20);
        fresh.refused("see(0, 1, 1)", x -> x.see(0, 1, 1), UNKNOWN);
        about(19);
        fresh.refused("share(1, 0)", x -> x.share(1, 0, true), UNKNOWN);
        about(23);
        fresh.refused("fades(1, 1, 0, 0)", x -> x.fades(1, 1, 0, 0, true), UNKNOWN);
    }

    // ---- calls that are not refused, and change nothing

    private void questions() {
        doc.of(15, "In what follows nothing is changed.");
        question("pass(0, 11)", x -> x.pass(0, 11));
        doc.of(16, "In what follows nothing is changed.");
        question("grows(3, 9)", x -> x.grows(3, 9, true));
        doc.of(17, "In what follows nothing is changed.");
        question("steady(3, 9)", x -> x.steady(3, 9));
        doc.of(18, "In what follows nothing is changed.");
        question("judge(4, ..)", x -> x.judge(4, 1009_2000_3360_4060L));
        question("judge(4, ..), not so", x -> x.judge(4, 1039_2000_3020_6999L));
        doc.of(19, "In what follows nothing is changed.");
        question("share(1, 1)", x -> x.share(1, 1, false));
        doc.of(22, "In what follows nothing is changed.");
        question("ways(0)", x -> x.ways(0));
        question("ways(1)", x -> x.ways(1));
        doc.of(23, "In what follows nothing is changed.");
        question("fades(0, 1, 2, 3)", x -> x.fades(0, 1, 2, 3, true));
        doc.of(4, "FAULT; NONE.");
        question("fault()", ShadeTree::fault);
        doc.of(6, "letters of THE TEXT (9). BAD.");
        for (int what = 0; what <= 9; what++) {
            int asked = what;
            question("about(" + what + ")", x -> x.about(asked));
            question("node(3, " + what + ")", x -> x.node(3, asked));
            question("parts(" + what + ")", x -> x.parts(asked));
        }
        doc.of(7, "SHADE of a DOT.");
        question("shade(11)", x -> x.shade(11));
        doc.of(9, "DOTS of THE NODE of a DOT, as bits.");
        question("dots(11)", x -> x.dots(11));
    }
}
