/** Promise 3: fill. */
public final class FillTest {
    public static void main(String[] args) {
        takesTheLowestEightBits();
        comesBehindWhatIsInHand();
        refusesOtherCounts();
        refusesMoreThan8000();
        upToTheLastByte();
        refusedWhileDown();
        Due.end();
    }

    private static void takesTheLowestEightBits() {
        Desk desk = new Desk(4);
        int[] values = {0, 1, 127, 128, 255, 256, 0x1234, -1, -128, -129, -256,
            Integer.MIN_VALUE, Integer.MAX_VALUE};
        int[] due = {0, 1, 127, 128, 255, 0, 0x34, 255, 128, 127, 0, 0, 255};
        for (int value : values) {
            Due.is("fill(" + value + ", 1)", desk.fill(value, 1), true);
        }
        Due.is("record()", desk.record(), 1);
        Due.bytes("bits", desk, 0, due);
    }

    private static void comesBehindWhatIsInHand() {
        Desk desk = new Desk(4);
        Due.is("put(0x0908, 2)", desk.put(0x0908L, 2), true);
        Due.is("fill(1, 3)", desk.fill(1, 3), true);
        Due.is("fill(2, 1)", desk.fill(2, 1), true);
        Due.is("in hand", desk.state(4), 6);
        Due.is("snapshot()", desk.snapshot(), 1);
        Due.bytes("behind", desk, -1, 9, 8, 1, 1, 1, 2);
    }

    private static void refusesOtherCounts() {
        Desk desk = new Desk(4);
        Due.is("fill(5, 1)", desk.fill(5, 1), true);
        int[] wrong = {0, -1, -8000, 8001, 16000, Integer.MIN_VALUE, Integer.MAX_VALUE};
        for (int n : wrong) {
            Due.is("fill(1, " + n + ")", desk.fill(1, n), false);
            Due.is("in hand", desk.state(4), 1);
        }
        Due.is("record()", desk.record(), 1);
        Due.bytes("refused fills", desk, 0, 5);
    }

    private static void refusesMoreThan8000() {
        Desk desk = new Desk(32);
        Due.is("fill(1, 8001) on none", desk.fill(1, 8001), false);
        Due.is("fill(1, 8000)", desk.fill(1, 8000), true);
        Due.is("fill(2, 1)", desk.fill(2, 1), false);
        Due.is("in hand", desk.state(4), 8000);
        Due.is("record()", desk.record(), 1);
        Due.allAlike("whole", desk, 0, 8000, 1);
        Due.is("fill(3, 7000)", desk.fill(3, 7000), true);
        Due.is("fill(4, 1001)", desk.fill(4, 1001), false);
        Due.is("fill(4, 1000)", desk.fill(4, 1000), true);
        Due.is("in hand", desk.state(4), 8000);
    }

    private static void upToTheLastByte() {
        int[] hands = {1, 2, 499, 500, 4000, 7998, 7999};
        for (int hand : hands) {
            Desk desk = new Desk(32);
            Due.is("fill", desk.fill(1, hand), true);
            Due.is("fill beyond " + hand, desk.fill(2, 8001 - hand), false);
            Due.is("fill of 8000 beyond " + hand, desk.fill(2, 8000), false);
            Due.is("in hand", desk.state(4), hand);
            Due.is("fill up from " + hand, desk.fill(3, 8000 - hand), true);
            Due.is("fill beyond all", desk.fill(4, 1), false);
            Due.is("in hand", desk.state(4), 8000);
            Due.is("record()", desk.record(), 1);
            Due.is("first", desk.byteOf(0, 0), 1);
            Due.is("last of the first", desk.byteOf(0, hand - 1), 1);
            Due.is("first of the others", desk.byteOf(0, hand), 3);
            Due.is("last", desk.byteOf(0, 7999), 3);
        }
    }

    private static void refusedWhileDown() {
        Desk desk = new Desk(4);
        Due.is("cut()", desk.cut(), true);
        Due.is("fill(1, 1) down", desk.fill(1, 1), false);
        Due.is("start()", desk.start(), 1);
        Due.is("in hand", desk.state(4), 0);
    }
}
