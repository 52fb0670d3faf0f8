/** Terms, "WRITES": how many blocks a record, a snapshot and a start write, and which is last. */
public final class TermsWritesTest {
    public static void main(String[] args) {
        recordsFromEachStart();
        snapshotsOfEachSize();
        startsOfOneBlock();
        Due.end();
    }

    /** "of a record the journal blocks in which it lies"; "it is done with the last of them" */
    private static void recordsFromEachStart() {
        int[] starts = {0, 4, 495, 496, 497, 499, 500, 501, 999, 1000};
        int[] sizes = {0, 1, 491, 492, 495, 496, 497, 501, 996, 997, 8000};
        for (int start : starts) {
            for (int size : sizes) {
                int blocks = (start + 4 + size - 1) / 500 - start / 500 + 1;
                for (int n = 0; n <= blocks + 1; n++) {
                    oneRecord(start, size, blocks, n);
                }
            }
        }
    }

    private static void oneRecord(int start, int size, int blocks, int n) {
        Desk desk = new Desk(32);
        if (start > 0) {
            Due.record(desk, 1, start - 4, 1);
        }
        String when = "record of " + size + " from " + start + " with " + n;
        thenWrite(when, desk, size, false, blocks, n);
        if (n >= blocks) {
            Due.stands(when, desk, start > 0 ? 2 : 1, 0, start + 4 + size, 0);
        }
    }

    /** "Of a snapshot 1 for each 500 bytes, or less, and one more, with which it is done." */
    private static void snapshotsOfEachSize() {
        int[] sizes = {0, 1, 2, 499, 500, 501, 999, 1000, 1001, 7499, 7500, 7501, 7999, 8000};
        int[] blocks = {1, 2, 2, 2, 2, 3, 3, 3, 4, 16, 16, 17, 17, 17};
        for (int i = 0; i < sizes.length; i++) {
            for (int n = 0; n <= blocks[i] + 1; n++) {
                Desk desk = new Desk(4);
                Due.snapshot(desk, 1, 600, 1);
                Due.record(desk, 2, 600, 1);
                String when = "snapshot of " + sizes[i] + " with " + n;
                thenWrite(when, desk, sizes[i], true, blocks[i], n);
                if (n >= blocks[i]) {
                    Due.stands(when, desk, 0, 1000, 1000, 0);
                    Due.allAlike(when, desk, -1, sizes[i], 9);
                }
            }
        }
    }

    /** With a charge of n: done, and so many blocks, or the power goes and all is as before. */
    private static void thenWrite(String when, Desk desk, int size, boolean asSnapshot,
            int blocks, int n) {
        Desk before = desk.twin();
        Due.inHand(desk, 9, size);
        int written = desk.state(5);
        Due.is(when + ": charge", desk.charge(n), true);
        boolean done = n >= blocks;
        Due.is(when, asSnapshot ? desk.snapshot() : desk.record(), done ? 1 : 2);
        Due.is(when + ": up", desk.state(0), done ? 1 : 0);
        Due.is(when + ": written", desk.state(5) - written, done ? blocks : n);
        if (done) {
            leftOfTheCharge(when, desk.twin(), n - blocks);
            return;
        }
        Due.is(when + ": start()", desk.start(), 1);
        Due.is(when + ": written with the start", desk.state(5) - written, n + 1);
        asBefore(when, desk, before);
    }

    private static void leftOfTheCharge(String when, Desk desk, int left) {
        for (int i = 0; i < left; i++) {
            Due.is(when + ": one block more", desk.snapshot(), 1);
        }
        Due.is(when + ": none left", desk.snapshot(), 2);
    }

    /** All but the blocks written; the bytes by some of each. */
    private static void asBefore(String when, Desk desk, Desk before) {
        for (int what = 0; what <= 4; what++) {
            Due.is(when + ": state " + what, desk.state(what), before.state(what));
        }
        for (int k = -1; k <= before.state(1); k++) {
            int size = before.size(k);
            Due.is(when + ": size " + k, desk.size(k), size);
            for (int i = 0; i <= size; i += Math.max(1, size / 4)) {
                Due.is(when + ": byteOf " + k, desk.byteOf(k, i), before.byteOf(k, i));
            }
        }
    }

    private static void startsOfOneBlock() {
        for (int n = 0; n <= 2; n++) {
            Desk desk = new Desk(2);
            Due.is("cut()", desk.cut(), true);
            Due.is("charge", desk.charge(n), true);
            Due.is("start() with " + n, desk.start(), n == 0 ? 2 : 1);
            Due.is("written with " + n, desk.state(5), n == 0 ? 0 : 1);
            Due.is("up with " + n, desk.state(0), n == 0 ? 0 : 1);
            if (n > 0) {
                leftOfTheCharge("start with " + n, desk, n - 1);
            }
        }
    }
}
