/** Terms, the first paragraph: how many bytes there may be, and how many there are at first. */
public final class TermsBytesTest {
    private static final int[] SIZES = {0, 1, 2, 499, 500, 501, 7999, 8000};

    public static void main(String[] args) {
        recordsOfNoneToTheMost();
        snapshotsOfNoneToTheMost();
        noneIsLargerThanTheMost();
        theMostByPuts();
        nothingAtFirst();
        Due.end();
    }

    /** "A RECORD are 0 .. 8000 bytes" */
    private static void recordsOfNoneToTheMost() {
        for (int size : SIZES) {
            Desk desk = new Desk(32);
            Due.record(desk, 7, size, 1);
            Due.stands("record of " + size, desk, 1, 0, 4 + size, 0);
            Due.allAlike("record of " + size, desk, 0, size, 7);
            Due.bytes("the snapshot stays", desk, -1);
        }
    }

    /** "a SNAPSHOT likewise" */
    private static void snapshotsOfNoneToTheMost() {
        for (int size : SIZES) {
            Desk desk = new Desk(2);
            Due.snapshot(desk, 9, 3, 1);
            Due.snapshot(desk, 7, size, 1);
            Due.stands("snapshot of " + size, desk, 0, 0, 0, 0);
            Due.allAlike("snapshot of " + size, desk, -1, size, 7);
        }
    }

    private static void noneIsLargerThanTheMost() {
        Desk desk = new Desk(32);
        Due.is("fill(1, 8000)", desk.fill(1, 8000), true);
        Due.is("fill(2, 1)", desk.fill(2, 1), false);
        Due.is("put(2, 1)", desk.put(2L, 1), false);
        Due.is("record()", desk.record(), 1);
        Due.allAlike("no more than 8000", desk, 0, 8000, 1);
        Due.is("fill(3, 7999)", desk.fill(3, 7999), true);
        Due.is("fill(4, 2)", desk.fill(4, 2), false);
        Due.is("put(4, 2)", desk.put(4L, 2), false);
        Due.is("put(3, 1)", desk.put(3L, 1), true);
        Due.is("put(4, 1)", desk.put(4L, 1), false);
        Due.is("snapshot()", desk.snapshot(), 1);
        Due.allAlike("no more than 8000", desk, -1, 8000, 3);
    }

    private static void theMostByPuts() {
        Desk desk = new Desk(32);
        Due.is("fill(5, 4080)", desk.fill(5, 4080), true);
        for (int i = 0; i < 490; i++) {
            Due.is("put of 8", desk.put(0x0505050505050505L, 8), true);
        }
        Due.is("put(6, 1)", desk.put(6L, 1), false);
        Due.is("put(6, 8)", desk.put(6L, 8), false);
        Due.is("fill(6, 1)", desk.fill(6, 1), false);
        Due.is("record()", desk.record(), 1);
        Due.allAlike("8000 by puts", desk, 0, 8000, 5);
    }

    /** "(of no bytes at first)", "(none at first)" */
    private static void nothingAtFirst() {
        int[] blocks = {2, 3, 16, 31, 32, 1, 33, Integer.MIN_VALUE, Integer.MAX_VALUE};
        for (int n : blocks) {
            Desk desk = new Desk(n);
            isOfNothing("new, of " + n, desk, 0);
            Due.is("cut()", desk.cut(), true);
            Due.is("start()", desk.start(), 1);
            isOfNothing("up again, of " + n, desk, 1);
        }
    }

    private static void isOfNothing(String when, Desk desk, int written) {
        Due.stands(when, desk, 0, 0, 0, 0);
        Due.is(when + ": written", desk.state(5), written);
        Due.bytes(when, desk, -1);
        Due.is(when + ": byteOf(-1, -1)", desk.byteOf(-1, -1), -1);
        Due.is(when + ": size(0)", desk.size(0), -1);
        Due.is(when + ": byteOf(0, 0)", desk.byteOf(0, 0), -1);
    }
}
