/** Compares answers with those that are due, and ends a test with exit code 1 if one differs. */
final class Due {
    private static int wrong = 0;
    private static int looked = 0;

    private Due() {
    }

    static void is(String call, long got, long want) {
        looked++;
        if (got != want) {
            wrong++;
            System.out.println(call + " answered " + got + ", due is " + want);
        }
    }

    static void is(String call, boolean got, boolean want) {
        is(call, got ? 1L : 0L, want ? 1L : 0L);
    }

    /** All that a store which is up tells of itself, but for its bytes and the blocks written. */
    static void stands(String when, BlockDesk desk, int records, int begin, int end, int hand) {
        is(when + ": up", desk.state(0), 1);
        is(when + ": records", desk.state(1), records);
        is(when + ": begin", desk.state(2), begin);
        is(when + ": end", desk.state(3), end);
        is(when + ": in hand", desk.state(4), hand);
    }

    static void bytes(String when, BlockDesk desk, int k, int... want) {
        is(when + ": size(" + k + ")", desk.size(k), want.length);
        for (int i = 0; i < want.length; i++) {
            is(when + ": byteOf(" + k + ", " + i + ")", desk.byteOf(k, i), want[i]);
        }
        is(when + ": byte behind the last of " + k, desk.byteOf(k, want.length), -1);
    }

    static void allAlike(String when, BlockDesk desk, int k, int size, int value) {
        is(when + ": size(" + k + ")", desk.size(k), size);
        for (int i = 0; i < size; i++) {
            is(when + ": byteOf(" + k + ", " + i + ")", desk.byteOf(k, i), value);
        }
        is(when + ": byte behind the last of " + k, desk.byteOf(k, size), -1);
    }

    static void record(BlockDesk desk, int value, int size, int want) {
        if (size > 0) {
            is("fill(" + value + ", " + size + ")", desk.fill(value, size), true);
        }
        is("record() of " + size, desk.record(), want);
    }

    static void snapshot(BlockDesk desk, int value, int size, int want) {
        if (size > 0) {
            is("fill(" + value + ", " + size + ")", desk.fill(value, size), true);
        }
        is("snapshot() of " + size, desk.snapshot(), want);
    }

    static void end() {
        System.out.println(looked + " answers, " + wrong + " not as due");
        if (wrong != 0 || looked == 0) {
            System.exit(1);
        }
    }
}
