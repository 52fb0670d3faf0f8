/**
 * The document's first sentence: a day's work is done again and again, and each time the power
 * goes before another block of it, also while the store starts again.
 */
public final class PowerTest {
    private static final int[] SIZES = {10, 1500, 0, 490, 800, 8000, 3, 501};
    private static final boolean[] AS_SNAPSHOT =
            {false, false, false, true, false, true, false, true};

    public static void main(String[] args) {
        int whole = doWork(new Desk(8), new Model(8));
        Due.is("the work was done to its end", whole, SIZES.length);
        for (int n = 0; n <= 40; n++) {
            for (int startsCutOff = 0; startsCutOff <= 2; startsCutOff++) {
                powerGoesBefore(n, startsCutOff);
            }
        }
        Due.end();
    }

    private static void powerGoesBefore(int n, int startsCutOff) {
        Desk desk = new Desk(8);
        Model done = new Model(8);
        Due.is("charge(" + n + ")", desk.charge(n), true);
        int steps = doWork(desk, done);
        if (steps == SIZES.length) {
            Due.is("cut()", desk.cut(), true);
        }
        for (int i = 0; i < startsCutOff; i++) {
            Due.is("charge(0)", desk.charge(0), true);
            Due.is("start()", desk.start(), 2);
        }
        Due.is("start()", desk.start(), 1);
        same("power before block " + n, desk, done);
        Due.record(desk, 77, 1, 1);
        Due.is("model fill", done.fill(77, 1), true);
        Due.is("model record", done.record(), 1);
        same("work after block " + n, desk, done);
    }

    /** The model does a step only when the desk has done it, so it holds what was done. */
    private static int doWork(Desk desk, Model done) {
        for (int step = 0; step < SIZES.length; step++) {
            if (SIZES[step] > 0) {
                Due.is("fill", desk.fill(step + 1, SIZES[step]), true);
            }
            int answer = AS_SNAPSHOT[step] ? desk.snapshot() : desk.record();
            if (answer != 1) {
                Due.is("step " + step, answer, 2);
                return step;
            }
            if (SIZES[step] > 0) {
                done.fill(step + 1, SIZES[step]);
            }
            Due.is("model", AS_SNAPSHOT[step] ? done.snapshot() : done.record(), 1);
        }
        return SIZES.length;
    }

    /** The model has not written what was cut off, so the blocks written are left out. */
    private static void same(String when, Desk asked, Model done) {
        Reader desk = new Reader(asked);
        for (int what = 0; what <= 4; what++) {
            Due.is(when + ": state " + what, desk.state(what), done.state(what));
        }
        for (int k = -1; k <= done.state(1); k++) {
            Due.is(when + ": size " + k, desk.size(k), done.size(k));
            for (int i = -1; i <= done.size(k); i++) {
                Due.is(when + ": byteOf " + k + " " + i, desk.byteOf(k, i), done.byteOf(k, i));
            }
        }
    }
}
