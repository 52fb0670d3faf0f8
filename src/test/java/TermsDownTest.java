/**
 * Terms: "While the store is down all calls are refused, or answer -1, but those that say
 * otherwise." Those are start, charge, and of state 0 and 5.
 */
public final class TermsDownTest {
    private static final int WAYS = 4;

    public static void main(String[] args) {
        for (int way = 0; way < WAYS; way++) {
            allIsRefusedButThose(way);
            upAgainAllIsTaken(way);
            upToThePowerNothingIsRefused(way);
        }
        Due.end();
    }

    /** With a snapshot of 6 bytes, records of 5 and of none, and 600 bytes in hand. */
    private static Desk worked() {
        Desk desk = new Desk(4);
        Due.record(desk, 1, 1, 1);
        Due.snapshot(desk, 2, 6, 1);
        Due.record(desk, 3, 5, 1);
        Due.is("record()", desk.record(), 1);
        Due.is("fill(4, 600)", desk.fill(4, 600), true);
        Due.is("written", desk.state(5), 5);
        return desk;
    }

    /** Answers how many blocks were written then. */
    private static int goDown(Desk desk, int way) {
        switch (way) {
            case 0 -> Due.is("cut()", desk.cut(), true);
            case 1 -> {
                Due.is("charge(1)", desk.charge(1), true);
                Due.is("record()", desk.record(), 2);
            }
            case 2 -> {
                Due.is("charge(2)", desk.charge(2), true);
                Due.is("snapshot()", desk.snapshot(), 2);
            }
            default -> {
                Due.is("cut()", desk.cut(), true);
                Due.is("charge(0)", desk.charge(0), true);
                Due.is("start()", desk.start(), 2);
            }
        }
        int[] written = {5, 6, 7, 5};
        return written[way];
    }

    private static void allIsRefusedButThose(int way) {
        Desk desk = worked();
        int written = goDown(desk, way);
        for (int n = 1; n <= 8; n++) {
            Due.is("put(1, " + n + ") down", desk.put(1L, n), false);
        }
        Due.is("fill(1, 1) down", desk.fill(1, 1), false);
        Due.is("fill(1, 8000) down", desk.fill(1, 8000), false);
        Due.is("record() down", desk.record(), 0);
        Due.is("snapshot() down", desk.snapshot(), 0);
        Due.is("cut() down", desk.cut(), false);
        int[] asked = {Integer.MIN_VALUE, -2, -1, 0, 1, 2, 3, Integer.MAX_VALUE};
        for (int k : asked) {
            Due.is("size(" + k + ") down", desk.size(k), -1);
            for (int i : asked) {
                Due.is("byteOf(" + k + ", " + i + ") down", desk.byteOf(k, i), -1);
            }
        }
        statesDown(desk, written);
        Due.is("charge(-1) down", desk.charge(-1), false);
        Due.is("charge(0) down", desk.charge(0), true);
        Due.is("charge(999) down", desk.charge(999), true);
        Due.is("charge(1000) down", desk.charge(1000), false);
        statesDown(desk, written);
        Due.is("start() down", desk.start(), 1);
        Due.is("up", desk.state(0), 1);
        Due.is("written", desk.state(5), written + 1);
    }

    private static void statesDown(Desk desk, int written) {
        int[] told = {-1, 0, -1, -1, -1, -1, written, -1};
        for (int what = -1; what <= 6; what++) {
            Due.is("state(" + what + ") down", desk.state(what), told[what + 1]);
        }
        Due.is("state of the least", desk.state(Integer.MIN_VALUE), -1);
        Due.is("state of the greatest", desk.state(Integer.MAX_VALUE), -1);
    }

    private static void upAgainAllIsTaken(int way) {
        Desk desk = worked();
        goDown(desk, way);
        Due.is("start()", desk.start(), 1);
        Due.stands("up again", desk, 2, 500, 513, 0);
        Due.allAlike("up again", desk, -1, 6, 2);
        Due.allAlike("up again", desk, 0, 5, 3);
        Due.bytes("up again", desk, 1);
        Due.is("size(2)", desk.size(2), -1);
        Due.is("start() up", desk.start(), 0);
        Due.is("put(7, 1)", desk.put(7L, 1), true);
        Due.is("fill(8, 2)", desk.fill(8, 2), true);
        Due.is("record()", desk.record(), 1);
        Due.bytes("up again", desk, 2, 7, 8, 8);
        Due.snapshot(desk, 9, 1, 1);
        Due.bytes("up again", desk, -1, 9);
        Due.is("cut()", desk.cut(), true);
    }

    private static void upToThePowerNothingIsRefused(int way) {
        Desk desk = worked();
        Due.stands("up", desk, 2, 500, 513, 600);
        Due.is("put(5, 1)", desk.put(5L, 1), true);
        Due.is("size(0)", desk.size(0), 5);
        Due.is("byteOf(0, 4)", desk.byteOf(0, 4), 3);
        goDown(desk, way);
        Due.is("put(5, 1) down", desk.put(5L, 1), false);
        Due.is("size(0) down", desk.size(0), -1);
        Due.is("byteOf(0, 4) down", desk.byteOf(0, 4), -1);
    }
}
