import java.util.Arrays;

/** Compares answers with those that are due, and ends a test with exit code 1 if one differs. */
final class Due {
    private static final int MOST_SHOWN = 40;
    private static int wrong = 0;
    private static int looked = 0;

    private Due() {
    }

    static void is(String call, long got, long want) {
        looked++;
        if (got != want) {
            wrong++;
            if (wrong <= MOST_SHOWN) {
                System.out.println(call + " answered " + got + ", due is " + want);
            }
        }
    }

    static void is(String call, boolean got, boolean want) {
        is(call, got ? 1L : 0L, want ? 1L : 0L);
    }

    /** All that a store which is up tells of itself, but for its bytes and the blocks written. */
    static void stands(String when, Asked desk, int records, int begin, int end, int hand) {
        is(when + ": up", desk.state(0), 1);
        is(when + ": records", desk.state(1), records);
        is(when + ": begin", desk.state(2), begin);
        is(when + ": end", desk.state(3), end);
        is(when + ": in hand", desk.state(4), hand);
    }

    static void bytes(String when, Desk desk, int k, int... want) {
        Reader reader = new Reader(desk);
        is(when + ": size(" + k + ")", reader.size(k), want.length);
        for (int i = 0; i < want.length; i++) {
            is(when + ": byteOf(" + k + ", " + i + ")", reader.byteOf(k, i), want[i]);
        }
        is(when + ": byte behind the last of " + k, reader.byteOf(k, want.length), -1);
    }

    static void allAlike(String when, Desk desk, int k, int size, int value) {
        int[] want = new int[size];
        Arrays.fill(want, value);
        bytes(when, desk, k, want);
    }

    static void record(Desk desk, int value, int size, int want) {
        inHand(desk, value, size);
        is("record() of " + size, desk.record(), want);
    }

    static void snapshot(Desk desk, int value, int size, int want) {
        inHand(desk, value, size);
        is("snapshot() of " + size, desk.snapshot(), want);
    }

    /** No bytes come in hand by no call, as fill takes 1 at least. */
    static void inHand(Desk desk, int value, int size) {
        if (size > 0) {
            is("fill(" + value + ", " + size + ")", desk.fill(value, size), true);
        }
    }

    /** Everything that can be asked of the two, with the edges around it. */
    static void same(String when, Asked got, Asked want) {
        int records = sameSizes(when, got, want);
        for (int k = -2; k <= records + 1; k++) {
            int size = Math.max(want.size(k), 0);
            for (int i = -1; i <= size; i++) {
                same(when, "byteOf", k, i, got.byteOf(k, i), want.byteOf(k, i));
            }
        }
    }

    /** All but the bytes; answers how many records there are. */
    static int sameSizes(String when, Asked got, Asked want) {
        for (int what = -1; what <= 6; what++) {
            same(when, "state", what, 0, got.state(what), want.state(what));
        }
        int records = Math.max(want.state(1), 0);
        for (int k = -2; k <= records + 1; k++) {
            same(when, "size", k, 0, got.size(k), want.size(k));
        }
        return records;
    }

    // The text is made only where it is shown: these are compared by the million.
    private static void same(String when, String call, int a, int b, int got, int want) {
        if (got == want) {
            looked++;
        } else {
            is(when + ": " + call + " " + a + " " + b, got, want);
        }
    }

    static void end() {
        System.out.println(looked + " answers, " + wrong + " not as due");
        if (wrong != 0 || looked == 0) {
            System.exit(1);
        }
    }
}
