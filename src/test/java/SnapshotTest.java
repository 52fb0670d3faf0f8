/** Promise 5: snapshot, with the blocks it writes and where the journal begins then. */
public final class SnapshotTest {
    public static void main(String[] args) {
        takesThePlaceOfAll();
        writesItsBlocksAndOneMore();
        theJournalBeginsInTheNextBlock();
        theJournalStaysWithoutRecords();
        aRecordCutOffIsNoRecord();
        thePowerGoesBeforeEachOfItsBlocks();
        refusedWhileDown();
        handAndSnapshotAreTwoThings();
        Due.end();
    }

    private static void takesThePlaceOfAll() {
        Desk desk = new Desk(4);
        Due.snapshot(desk, 1, 7, 1);
        Due.record(desk, 2, 5, 1);
        Due.record(desk, 3, 5, 1);
        Due.snapshot(desk, 4, 2, 1);
        Due.bytes("new one", desk, -1, 4, 4);
        Due.is("records went", desk.size(0), -1);
        Due.is("records went", desk.byteOf(0, 0), -1);
        Due.stands("new one", desk, 0, 500, 500, 0);
        Due.snapshot(desk, 0, 0, 1);
        Due.bytes("of no bytes", desk, -1);
    }

    private static void writesItsBlocksAndOneMore() {
        int[] sizes = {0, 1, 499, 500, 501, 1000, 1001, 7500, 7501, 8000};
        int[] blocks = {1, 2, 2, 2, 3, 3, 4, 16, 17, 17};
        Desk desk = new Desk(4);
        int written = 0;
        for (int i = 0; i < sizes.length; i++) {
            Due.snapshot(desk, i, sizes[i], 1);
            written += blocks[i];
            Due.is("written with " + sizes[i], desk.state(5), written);
            Due.allAlike("snapshot", desk, -1, sizes[i], i);
        }
    }

    private static void theJournalBeginsInTheNextBlock() {
        int[] sizes = {0, 495, 496, 497, 995, 996, 997};
        int[] begins = {500, 500, 500, 1000, 1000, 1000, 1500};
        for (int i = 0; i < sizes.length; i++) {
            Desk desk = new Desk(4);
            Due.record(desk, 1, sizes[i], 1);
            Due.snapshot(desk, 2, 9, 1);
            Due.stands("behind " + sizes[i], desk, 0, begins[i], begins[i], 0);
            Due.record(desk, 1, sizes[i], 1);
            Due.snapshot(desk, 2, 9, 1);
            Due.stands("again", desk, 0, 2 * begins[i], 2 * begins[i], 0);
        }
    }

    private static void theJournalStaysWithoutRecords() {
        Desk desk = new Desk(4);
        Due.snapshot(desk, 1, 600, 1);
        Due.snapshot(desk, 1, 600, 1);
        Due.stands("at first", desk, 0, 0, 0, 0);
        Due.record(desk, 1, 1, 1);
        Due.snapshot(desk, 1, 600, 1);
        Due.snapshot(desk, 0, 0, 1);
        Due.stands("later", desk, 0, 500, 500, 0);
    }

    private static void aRecordCutOffIsNoRecord() {
        Desk desk = new Desk(8);
        Due.is("charge(2)", desk.charge(2), true);
        Due.record(desk, 1, 1500, 2);
        Due.is("start()", desk.start(), 1);
        Due.snapshot(desk, 2, 1, 1);
        Due.stands("no record since it began", desk, 0, 0, 0, 0);
    }

    private static void thePowerGoesBeforeEachOfItsBlocks() {
        for (int n = 0; n <= 5; n++) {
            Desk desk = new Desk(4);
            Due.snapshot(desk, 1, 7, 1);
            Due.record(desk, 2, 5, 1);
            int before = desk.state(5);
            Due.is("charge", desk.charge(n), true);
            Due.snapshot(desk, 3, 1001, n < 4 ? 2 : 1);
            Due.is("written of " + n, desk.state(5), before + Math.min(n, 4));
            Due.is("up after " + n, desk.state(0), n < 4 ? 0 : 1);
            if (n < 4) {
                Due.is("start()", desk.start(), 1);
                Due.stands("as before", desk, 1, 0, 9, 0);
                Due.allAlike("as before", desk, -1, 7, 1);
                Due.allAlike("as before", desk, 0, 5, 2);
            } else {
                Due.stands("done", desk, 0, 500, 500, 0);
                Due.allAlike("done", desk, -1, 1001, 3);
            }
        }
        Desk empty = new Desk(4);
        Due.is("charge(0)", empty.charge(0), true);
        Due.is("snapshot() of none", empty.snapshot(), 2);
        Due.is("start()", empty.start(), 1);
        Due.is("charge(1)", empty.charge(1), true);
        Due.is("snapshot() of none", empty.snapshot(), 1);
    }

    private static void refusedWhileDown() {
        Desk desk = new Desk(4);
        Due.snapshot(desk, 1, 7, 1);
        Due.record(desk, 2, 5, 1);
        Due.is("cut()", desk.cut(), true);
        Due.is("snapshot() down", desk.snapshot(), 0);
        Due.is("written", desk.state(5), 3);
        Due.is("start()", desk.start(), 1);
        Due.stands("as before", desk, 1, 0, 9, 0);
        Due.allAlike("as before", desk, -1, 7, 1);
    }

    private static void handAndSnapshotAreTwoThings() {
        Desk desk = new Desk(4);
        Due.snapshot(desk, 1, 8, 1);
        Due.is("fill(2, 8)", desk.fill(2, 8), true);
        Due.allAlike("with a hand", desk, -1, 8, 1);
        Due.is("snapshot()", desk.snapshot(), 1);
        Due.is("put(3, 8)", desk.put(3L, 8), true);
        Due.allAlike("with a hand", desk, -1, 8, 2);
        Due.is("cut()", desk.cut(), true);
        Due.is("start()", desk.start(), 1);
        Due.is("fill(4, 8000)", desk.fill(4, 8000), true);
        Due.allAlike("with a hand", desk, -1, 8, 2);
    }
}
