import java.util.function.ToIntFunction;

/**
 * "The records that were done are there, and no other ones": bytes that look like heads of
 * records lie in blocks of work that was cut off, or is long gone, and none of them comes back.
 */
public final class StaleTest {
    /** As heads they would be of no bytes, of few, and of more than there is. */
    private static final long[] LIKE_HEADS = {0L, 0x0000000300000003L, 0x0300000003000000L,
        0x0007000700070007L, -1L};

    private final Desk desk;
    private final Model model;

    private StaleTest(int blocks) {
        desk = new Desk(blocks);
        model = new Model(blocks);
    }

    public static void main(String[] args) {
        for (long head : LIKE_HEADS) {
            for (int size = 0; size <= 24; size++) {
                shorterOverARecordCutOff(head, size);
            }
            for (int n = 0; n <= 3; n++) {
                recordsOfARoundBefore(head, n);
                aSnapshotCutOff(head, n);
            }
        }
        Due.end();
    }

    private static void shorterOverARecordCutOff(long head, int size) {
        StaleTest both = new StaleTest(4);
        both.inHand(head, 160);
        both.call("charge(2)", store -> store.charge(2) ? 1 : 0);
        both.call("record()", Store::record);
        both.call("start()", Store::start);
        both.inHand(5L, size / 8);
        if (size % 8 > 0) {
            both.call("put", store -> store.put(6L, size % 8) ? 1 : 0);
        }
        both.call("record()", Store::record);
        both.cutAndStart("shorter, of " + size);
        both.call("record()", Store::record);
        both.cutAndStart("and one of none, behind " + size);
    }

    private static void recordsOfARoundBefore(long head, int n) {
        StaleTest both = new StaleTest(2);
        for (int round = 0; round < 6; round++) {
            both.inHand(head, 20 + round);
            both.call("record()", Store::record);
            if (round % 2 == 0) {
                both.inHand(head, 70);
                both.call("record()", Store::record);
            }
            both.cutAndStart("round " + round);
            both.call("charge", store -> store.charge(n) ? 1 : 0);
            both.call("snapshot()", Store::snapshot);
            both.cutAndStart("snapshot of round " + round + " with " + n);
            both.call("snapshot()", Store::snapshot);
            both.cutAndStart("done in round " + round);
        }
    }

    private static void aSnapshotCutOff(long head, int n) {
        StaleTest both = new StaleTest(3);
        both.inHand(7L, 80);
        both.call("snapshot()", Store::snapshot);
        both.inHand(8L, 2);
        both.call("record()", Store::record);
        for (int size = 150; size >= 0; size -= 50) {
            both.inHand(head, size);
            both.call("charge", store -> store.charge(n) ? 1 : 0);
            both.call("snapshot()", Store::snapshot);
            both.cutAndStart("snapshot of " + 8 * size + " with " + n);
        }
    }

    private void inHand(long eight, int times) {
        for (int i = 0; i < times; i++) {
            call("put", store -> store.put(eight, 8) ? 1 : 0);
        }
    }

    private void call(String text, ToIntFunction<Store> made) {
        Due.is(text, made.applyAsInt(desk), made.applyAsInt(model));
    }

    private void cutAndStart(String when) {
        call("cut()", store -> store.cut() ? 1 : 0);
        call("start()", Store::start);
        call("start()", Store::start);
        Due.same(when, new Reader(desk), model);
    }
}
