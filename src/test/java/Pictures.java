/** Objects with a text or a picture, made from letters, and what is seen of their shades. */
final class Pictures {
    /**
     * Most tests ask this picture, 4 wide and 3 high:
     * <pre>
     *   5 5 0 9      dots 0 .. 3
     *   0 1 1 1      dots 4 .. 7
     *   3 0 7 0      dots 8 .. 11
     * </pre>
     * By way 4 its nodes are {3} at 9, {10} at 7, {0, 1} at 5, {8} at 3, M = {0, 1, 3, 5, 6, 7, 10}
     * at 1 and all dots at 0; by way 8 dot 8 hangs together with M at 1.
     */
    static final String FIGURES = "550901113070";

    private Pictures() {
    }

    static ShadeTree told(String letters) {
        ShadeTree x = new ShadeTree();
        tell(x, letters);
        return x;
    }

    static void tell(ShadeTree x, String letters) {
        x.wipe();
        for (char c : letters.toCharArray()) {
            x.write(c);
        }
    }

    /** A picture that could not be shown is a fault of the test, so it ends there. */
    static void show(ShadeTree x, String letters) {
        tell(x, letters);
        if (x.picture() < 1) {
            throw new IllegalStateException("no picture: " + letters);
        }
    }

    static ShadeTree shown(String letters) {
        ShadeTree x = new ShadeTree();
        show(x, letters);
        return x;
    }

    static ShadeTree four() {
        return shown("P443" + FIGURES);
    }

    static ShadeTree eight() {
        return shown("P843" + FIGURES);
    }

    static String shades(ShadeTree x) {
        StringBuilder all = new StringBuilder();
        for (int dot = 0; dot < 36; dot++) {
            int shade = x.shade(dot);
            if (shade == ShadeTree.UNKNOWN) {
                break;
            }
            all.append(shade);
        }
        return all.toString();
    }
}
