import java.util.Random;

/** Runs of calls by fixed seeds, on ShadeTree and on PlainModel: all answers must be the same. */
public final class ModelTest {
    private static final int[] EDGES = {
        -1, 0, 1, 2, 5, 6, 7, 9, 10, 35, 36, 37, Integer.MAX_VALUE, Integer.MIN_VALUE
    };

    private final Due due;
    private final Random random;
    private final ShadeTree tree = new ShadeTree();
    private final PlainModel model = new PlainModel();
    private final String run;
    private int calls = 0;

    private ModelTest(Due due, int number) {
        this.due = due;
        this.random = new Random(number);
        this.run = "run " + number + ", call ";
    }

    public static void main(String[] args) {
        Due due = new Due();
        for (int number = 0; number < 250 && !due.anyWrong(); number++) {
            new ModelTest(due, number).mixedCalls();
        }
        for (int number = 1000; number < 1120 && !due.anyWrong(); number++) {
            new ModelTest(due, number).wholePicture();
        }
        due.end();
    }

    private void is(String call, long got, long want) {
        calls++;
        due.is(run + calls + ": " + call, got, want);
    }

    // ---- texts

    private void newText(String letters) {
        is("wipe()", tree.wipe(), model.wipe());
        for (char c : letters.toCharArray()) {
            is("write(" + (int) c + ")", tree.write(c), model.write(c));
        }
    }

    private String pictureText() {
        int w = 1 + random.nextInt(6);
        int h = 1 + random.nextInt(6);
        // few shades make wide flat parts, many make deep trees
        int kinds = 2 + random.nextInt(9);
        int[] shades = new int[kinds];
        for (int i = 0; i < kinds; i++) {
            shades[i] = random.nextInt(10);
        }
        StringBuilder text = new StringBuilder("P");
        text.append(random.nextBoolean() ? 4 : 8).append(w).append(h);
        for (int dot = 0; dot < w * h; dot++) {
            text.append(shades[random.nextInt(kinds)]);
        }
        return text.toString();
    }

    private String spoiltText() {
        StringBuilder text = new StringBuilder(pictureText());
        int place = random.nextInt(text.length());
        switch (random.nextInt(4)) {
            case 0:
                text.setLength(place);
                break;
            case 1:
                text.append("0");
                break;
            case 2:
                text.setCharAt(place, "P0123456789:/p \u00ff\n".charAt(random.nextInt(17)));
                break;
            default:
                text.setCharAt(random.nextInt(Math.min(4, text.length())),
                        "P0123456789".charAt(random.nextInt(11)));
                break;
        }
        return text.toString();
    }

    private void askFaultAndPicture() {
        is("fault()", tree.fault(), model.fault());
        is("picture()", tree.picture(), model.picture());
    }

    // ---- arguments

    private int number(int bound) {
        return random.nextInt(12) == 0 ? EDGES[random.nextInt(EDGES.length)] : random.nextInt(bound);
    }

    private int dot() {
        return number(Math.max(1, model.about(1) * model.about(2)));
    }

    private int row() {
        return number(Math.max(1, model.about(2)));
    }

    private long told(int n) {
        switch (random.nextInt(20)) {
            case 0:
                return random.nextLong();
            case 1:
                return (long) Math.pow(10, 4 * n) - random.nextInt(2);
            default:
                break;
        }
        long row = 0;
        for (int i = 0; i < n; i++) {
            row = row * 10000 + toldDoing();
        }
        return row;
    }

    private int toldDoing() {
        int dot = random.nextInt(Math.max(1, model.about(1) * model.about(2)));
        int last = random.nextInt(10);
        switch (random.nextInt(16)) {
            case 0:
                return random.nextInt(10000);
            case 1: case 2: case 3:
                return 1000 + dot * 10 + last;
            case 4: case 5:
                return 2000;
            case 6: case 7:
                return 3000 + random.nextInt(8) * 10;
            case 8:
                return 3000 + random.nextInt(40) * 10;
            case 9: case 10:
                return 4000 + random.nextInt(8) * 10;
            case 11: {
                int level = model.node(model.node(dot, 4), 1);
                return 5000 + dot * 10 + Math.max(0, level);
            }
            case 12:
                return 5000 + dot * 10 + last;
            case 13:
                return 6000 + Math.max(0, model.parts(last) - random.nextInt(3) + 1) * 10 + last;
            case 14:
                return 7000 + dot * 10 + Math.max(0, model.node(dot, 9));
            default:
                return 7000 + dot * 10 + last;
        }
    }

    // ---- runs

    private void mixedCalls() {
        if (random.nextInt(10) != 0) {
            newText(pictureText());
            askFaultAndPicture();
        }
        for (int i = 0; calls < 450; i++) {
            oneCall();
        }
    }

    private void oneCall() {
        int pick = random.nextInt(100);
        if (pick < 3) {
            newText(random.nextInt(3) == 0 ? spoiltText() : pictureText());
            askFaultAndPicture();
        } else if (pick < 6) {
            int letter = random.nextInt(6) == 0 ? EDGES[random.nextInt(EDGES.length)]
                    : 254 + random.nextInt(4);
            is("write(" + letter + ")", tree.write(letter), model.write(letter));
            is("fault()", tree.fault(), model.fault());
        } else if (pick < 40) {
            oneDoing();
        } else if (pick < 60) {
            oneLook();
        } else if (pick < 80) {
            onePass();
        } else if (pick < 90) {
            oneSight();
        } else {
            oneChance();
        }
    }

    private void oneDoing() {
        int dot = dot();
        int v = number(10);
        switch (random.nextInt(8)) {
            case 0: case 1: case 2:
                is("paint(" + dot + ", " + v + ")", tree.paint(dot, v), model.paint(dot, v));
                break;
            case 3:
                is("negative()", tree.negative(), model.negative());
                break;
            case 4: {
                int how = number(2);
                int n = number(5);
                is("sift(" + how + ", " + n + ")", tree.sift(how, n), model.sift(how, n));
                break;
            }
            case 5:
                is("undo()", tree.undo(), model.undo());
                break;
            case 6: {
                int slot = number(2);
                is("keep(" + slot + ")", tree.keep(slot), model.keep(slot));
                break;
            }
            default: {
                int slot = number(2);
                if (random.nextInt(3) == 0) {
                    is("again(" + slot + ")", tree.again(slot), model.again(slot));
                }
                break;
            }
        }
    }

    private void oneLook() {
        int dot = dot();
        int what = number(10);
        switch (random.nextInt(5)) {
            case 0:
                is("about(" + what + ")", tree.about(what), model.about(what));
                break;
            case 1:
                is("shade(" + dot + ")", tree.shade(dot), model.shade(dot));
                break;
            case 2:
                is("node(" + dot + ", " + what + ")", tree.node(dot, what), model.node(dot, what));
                break;
            case 3:
                is("dots(" + dot + ")", tree.dots(dot), model.dots(dot));
                break;
            default:
                is("parts(" + what + ")", tree.parts(what), model.parts(what));
                break;
        }
    }

    private void onePass() {
        int dot = dot();
        int other = dot();
        int d = number(10);
        boolean upper = random.nextBoolean();
        switch (random.nextInt(5)) {
            case 0:
                is("pass(" + dot + ", " + other + ")", tree.pass(dot, other), model.pass(dot, other));
                break;
            case 1:
                is("grows(" + dot + ", " + d + ", " + upper + ")",
                        tree.grows(dot, d, upper), model.grows(dot, d, upper));
                break;
            case 2:
                is("steady(" + dot + ", " + d + ")", tree.steady(dot, d), model.steady(dot, d));
                break;
            case 3: {
                int n = number(4) + 1;
                long row = told(Math.max(1, Math.min(4, n)));
                is("judge(" + n + ", " + row + ")", tree.judge(n, row), model.judge(n, row));
                break;
            }
            default: {
                int row = row();
                is("share(" + row + ", " + d + ", " + upper + ")",
                        tree.share(row, d, upper), model.share(row, d, upper));
                break;
            }
        }
    }

    private void oneSight() {
        switch (random.nextInt(4)) {
            case 0: case 1: {
                int one = dot();
                int other = dot();
                // mostly what is so at some t, so that several sights can hold at once
                int joined = random.nextInt(4) == 0 ? number(2) : model.pass(one, other) > 3 ? 1 : 0;
                is("see(" + one + ", " + other + ", " + joined + ")",
                        tree.see(one, other, joined), model.see(one, other, joined));
                break;
            }
            case 2: {
                int what = number(2);
                is("ways(" + what + ")", tree.ways(what), model.ways(what));
                break;
            }
            default:
                if (random.nextInt(3) == 0) {
                    is("unsee()", tree.unsee(), model.unsee());
                }
                break;
        }
    }

    private void oneChance() {
        boolean upper = random.nextBoolean();
        switch (random.nextInt(3)) {
            case 0: {
                int row = row();
                int t = number(10);
                int v = number(6);
                int x = number(11);
                is("fades(" + row + ", " + t + ", " + v + ", " + x + ", " + upper + ")",
                        tree.fades(row, t, v, x, upper), model.fades(row, t, v, x, upper));
                break;
            }
            case 1: {
                long seed = random.nextBoolean() ? random.nextLong() : random.nextInt(100) - 50;
                is("seed(" + seed + ")", tree.seed(seed), model.seed(seed));
                break;
            }
            default: {
                int m = random.nextInt(8) == 0 ? EDGES[random.nextInt(EDGES.length)]
                        : 1 + random.nextInt(21);
                is("drawn(" + m + ")", tree.drawn(m), model.drawn(m));
                break;
            }
        }
    }

    /** Every question about one picture; the object's 512 calls are not passed. */
    private void wholePicture() {
        newText(pictureText());
        askFaultAndPicture();
        for (int what = 0; what <= 9; what++) {
            is("about(" + what + ")", tree.about(what), model.about(what));
            is("parts(" + what + ")", tree.parts(what), model.parts(what));
        }
        int size = model.about(1) * model.about(2);
        for (int dot = 0; dot < size; dot++) {
            for (int what = 0; what <= 9; what++) {
                is("node(" + dot + ", " + what + ")", tree.node(dot, what), model.node(dot, what));
            }
            int d = 1 + random.nextInt(9);
            is("dots(" + dot + ")", tree.dots(dot), model.dots(dot));
            is("steady(" + dot + ", " + d + ")", tree.steady(dot, d), model.steady(dot, d));
        }
    }
}
