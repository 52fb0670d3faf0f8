/** Promise 10: byteOf. */
public final class ByteOfTest {
    private static final int[] BEYOND = {-1, -2, 5, 6, 8000, Integer.MIN_VALUE, Integer.MAX_VALUE};

    public static void main(String[] args) {
        tellsEachByte();
        tellsNoneBeyond();
        tellsNoneOfTheEmpty();
        tellsTheLastOfTheMost();
        tellsNoneWhileDown();
        Due.end();
    }

    /** Bytes of all values, across several journal blocks and in the snapshot alike. */
    private static void tellsEachByte() {
        Desk desk = new Desk(32);
        Due.snapshot(desk, 1, 1, 1);
        putCounting(desk, 1200, 5);
        Due.is("snapshot()", desk.snapshot(), 1);
        putCounting(desk, 480, 0);
        Due.is("record()", desk.record(), 1);
        putCounting(desk, 1504, 100);
        Due.is("record()", desk.record(), 1);
        countingIs(desk, -1, 1200, 5);
        countingIs(desk, 0, 480, 0);
        countingIs(desk, 1, 1504, 100);
    }

    private static void putCounting(Desk desk, int n, int first) {
        for (int i = 0; i < n; i += 8) {
            long v = 0;
            for (int j = 0; j < 8; j++) {
                v = v << 8 | (first + i + j) % 256;
            }
            Due.is("put", desk.put(v, 8), true);
        }
    }

    private static void countingIs(Desk desk, int k, int n, int first) {
        int[] due = new int[n];
        for (int i = 0; i < n; i++) {
            due[i] = (first + i) % 256;
        }
        Due.bytes("counting", desk, k, due);
    }

    private static void tellsNoneBeyond() {
        Desk desk = new Desk(4);
        Due.snapshot(desk, 255, 9, 1);
        Due.snapshot(desk, 255, 5, 1);
        Due.record(desk, 254, 5, 1);
        Due.record(desk, 253, 5, 1);
        Due.is("fill(252, 5)", desk.fill(252, 5), true);
        for (int i : BEYOND) {
            for (int k = -1; k <= 1; k++) {
                Due.is("byteOf(" + k + ", " + i + ")", desk.byteOf(k, i), -1);
            }
        }
        int[] none = {-2, 2, 3, 500, 501, Integer.MIN_VALUE, Integer.MAX_VALUE};
        for (int k : none) {
            Due.is("byteOf(" + k + ", 0)", desk.byteOf(k, 0), -1);
            Due.is("byteOf(" + k + ", -1)", desk.byteOf(k, -1), -1);
        }
        Due.is("byteOf(-1, 4)", desk.byteOf(-1, 4), 255);
        Due.is("byteOf(1, 4)", desk.byteOf(1, 4), 253);
        Due.is("byteOf(1, 0)", desk.byteOf(1, 0), 253);
    }

    private static void tellsNoneOfTheEmpty() {
        Desk desk = new Desk(4);
        Due.record(desk, 1, 3, 1);
        Due.is("record() of none", desk.record(), 1);
        Due.record(desk, 2, 3, 1);
        for (int i = -2; i <= 8; i++) {
            Due.is("byteOf(1, " + i + ")", desk.byteOf(1, i), -1);
            Due.is("byteOf(-1, " + i + ")", desk.byteOf(-1, i), -1);
            Due.is("byteOf(0, " + i + ")", desk.byteOf(0, i), i >= 0 && i < 3 ? 1 : -1);
            Due.is("byteOf(2, " + i + ")", desk.byteOf(2, i), i >= 0 && i < 3 ? 2 : -1);
        }
        int[] ends = {Integer.MIN_VALUE, Integer.MAX_VALUE};
        for (int k : ends) {
            for (int i : ends) {
                Due.is("byteOf(" + k + ", " + i + ")", desk.byteOf(k, i), -1);
            }
        }
    }

    private static void tellsTheLastOfTheMost() {
        Desk desk = new Desk(32);
        Due.is("fill(1, 7999)", desk.fill(1, 7999), true);
        Due.is("put(254, 1)", desk.put(254L, 1), true);
        Due.is("snapshot()", desk.snapshot(), 1);
        Due.is("fill(2, 7999)", desk.fill(2, 7999), true);
        Due.is("put(253, 1)", desk.put(253L, 1), true);
        Due.is("record()", desk.record(), 1);
        for (int k = -1; k <= 0; k++) {
            Due.is("byteOf(" + k + ", -1)", desk.byteOf(k, -1), -1);
            Due.is("byteOf(" + k + ", 0)", desk.byteOf(k, 0), k + 2);
            Due.is("byteOf(" + k + ", 7998)", desk.byteOf(k, 7998), k + 2);
            Due.is("byteOf(" + k + ", 7999)", desk.byteOf(k, 7999), 253 - k);
            Due.is("byteOf(" + k + ", 8000)", desk.byteOf(k, 8000), -1);
        }
    }

    private static void tellsNoneWhileDown() {
        Desk desk = new Desk(4);
        Due.snapshot(desk, 255, 5, 1);
        Due.record(desk, 254, 5, 1);
        Due.is("cut()", desk.cut(), true);
        Due.is("byteOf(-1, 0) down", desk.byteOf(-1, 0), -1);
        Due.is("byteOf(0, 0) down", desk.byteOf(0, 0), -1);
        Due.is("start()", desk.start(), 1);
        Due.allAlike("up again", desk, -1, 5, 255);
        Due.allAlike("up again", desk, 0, 5, 254);
    }
}
