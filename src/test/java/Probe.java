/**
 * All that can be seen of an object from outside: the picture, every doing undone, what is seen,
 * kept, drawn and written. It uses the object up, so two objects are compared by the probes of both.
 */
final class Probe {
    private final ShadeTree x;
    private final StringBuilder all = new StringBuilder();

    private Probe(ShadeTree x) {
        this.x = x;
    }

    static String of(ShadeTree x) {
        Probe probe = new Probe(x);
        probe.about();
        probe.picture();
        // one more than the row of doings can hold
        for (int i = 0; i < 15; i++) {
            probe.note("undo", x.undo());
            probe.picture();
        }
        for (int slot = 0; slot <= 1; slot++) {
            probe.note("again", x.again(slot));
            probe.picture();
        }
        probe.note("seed", x.seed(0));
        probe.note("fault", x.fault());
        probe.note("picture", x.picture());
        probe.picture();
        probe.about();
        probe.note("unsee", x.unsee());
        probe.note("wipe", x.wipe());
        return probe.all.toString();
    }

    private void note(String call, long answer) {
        all.append(call).append(' ').append(answer).append("; ");
    }

    private void about() {
        for (int what = 0; what <= 9; what++) {
            note("about", x.about(what));
        }
    }

    private void picture() {
        all.append(Pictures.shades(x)).append("; ");
        note("ways", x.ways(0));
        note("first", x.ways(1));
    }
}
