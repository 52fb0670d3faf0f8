/** Promise 4: record, with the places, the journal's end and the blocks it writes. */
public final class RecordTest {
    public static void main(String[] args) {
        takesWhatIsInHand();
        writesTheBlocksItLiesIn();
        isRefusedIfTheJournalIsFull();
        isRefusedIfAnEmptyOneDoesNotFit();
        fullIsCountedFromWhereTheJournalBegins();
        thePowerGoesBeforeEachOfItsBlocks();
        aFullJournalSparesTheCharge();
        refusedWhileDown();
        manyEmptyRecords();
        Due.end();
    }

    private static void takesWhatIsInHand() {
        Desk desk = new Desk(4);
        Due.record(desk, 1, 3, 1);
        Due.stands("one", desk, 1, 0, 7, 0);
        Due.record(desk, 0, 0, 1);
        Due.stands("two", desk, 2, 0, 11, 0);
        Due.record(desk, 2, 2, 1);
        Due.stands("three", desk, 3, 0, 17, 0);
        Due.bytes("first", desk, 0, 1, 1, 1);
        Due.bytes("empty", desk, 1);
        Due.bytes("third", desk, 2, 2, 2);
        Due.bytes("snapshot stays", desk, -1);
    }

    private static void writesTheBlocksItLiesIn() {
        Desk desk = new Desk(32);
        int[] sizes = {495, 0, 492, 0, 496, 497, 0, 8000, 0};
        int[] ends = {499, 503, 999, 1003, 1503, 2004, 2008, 10012, 10016};
        int[] written = {1, 3, 4, 6, 8, 10, 11, 28, 29};
        for (int i = 0; i < sizes.length; i++) {
            Due.record(desk, i, sizes[i], 1);
            Due.is("end " + i, desk.state(3), ends[i]);
            Due.is("written " + i, desk.state(5), written[i]);
        }
        for (int i = 0; i < sizes.length; i++) {
            Due.allAlike("kept " + i, desk, i, sizes[i], i);
        }
    }

    private static void isRefusedIfTheJournalIsFull() {
        Desk desk = new Desk(2);
        Due.record(desk, 1, 400, 1);
        Due.is("fill(2, 593)", desk.fill(2, 593), true);
        Due.is("record() one place too long", desk.record(), 0);
        Due.stands("refused", desk, 1, 0, 404, 593);
        Due.is("written", desk.state(5), 1);
        Due.snapshot(desk, 0, 0, 1);
        Due.allAlike("hand was kept", desk, -1, 593, 2);

        Desk exact = new Desk(2);
        Due.record(exact, 1, 400, 1);
        Due.record(exact, 2, 592, 1);
        Due.stands("exact", exact, 2, 0, 1000, 0);
        Due.record(exact, 0, 0, 0);
        Due.stands("full", exact, 2, 0, 1000, 0);
    }

    private static void isRefusedIfAnEmptyOneDoesNotFit() {
        for (int over = 1; over <= 3; over++) {
            Desk desk = new Desk(2);
            Due.record(desk, 1, 992 + over, 1);
            Due.record(desk, 0, 0, 0);
            Due.is("records", desk.state(1), 1);
        }
        Desk desk = new Desk(2);
        Due.record(desk, 1, 992, 1);
        Due.record(desk, 0, 0, 1);
        Due.stands("just so", desk, 2, 0, 1000, 0);
    }

    private static void fullIsCountedFromWhereTheJournalBegins() {
        Desk desk = new Desk(2);
        Due.record(desk, 1, 1, 1);
        Due.snapshot(desk, 0, 0, 1);
        Due.record(desk, 2, 996, 1);
        Due.stands("second life", desk, 1, 500, 1500, 0);
        Due.record(desk, 0, 0, 0);
        Due.snapshot(desk, 0, 0, 1);
        Due.record(desk, 3, 996, 1);
        Due.stands("third life", desk, 1, 1500, 2500, 0);
        Due.allAlike("third life", desk, 0, 996, 3);
    }

    private static void thePowerGoesBeforeEachOfItsBlocks() {
        for (int n = 0; n <= 5; n++) {
            Desk desk = new Desk(8);
            Due.record(desk, 1, 490, 1);
            Due.snapshot(desk, 8, 3, 1);
            Due.record(desk, 2, 490, 1);
            int before = desk.state(5);
            Due.is("charge", desk.charge(n), true);
            // Places 994 .. 2497 lie in the blocks 1 to 4.
            Due.record(desk, 3, 1500, n < 4 ? 2 : 1);
            Due.is("written of " + n, desk.state(5), before + Math.min(n, 4));
            Due.is("up after " + n, desk.state(0), n < 4 ? 0 : 1);
            if (n < 4) {
                Due.is("start()", desk.start(), 1);
                Due.stands("as before", desk, 1, 500, 994, 0);
                Due.is("no record more", desk.size(1), -1);
            } else {
                Due.stands("done", desk, 2, 500, 2498, 0);
                Due.allAlike("done", desk, 1, 1500, 3);
            }
            Due.allAlike("kept", desk, 0, 490, 2);
            Due.allAlike("kept", desk, -1, 3, 8);
        }
    }

    private static void aFullJournalSparesTheCharge() {
        Desk desk = new Desk(2);
        Due.is("fill(1, 997)", desk.fill(1, 997), true);
        Due.is("charge(0)", desk.charge(0), true);
        Due.is("record() full", desk.record(), 0);
        Due.stands("still up", desk, 0, 0, 0, 997);
        Due.is("snapshot()", desk.snapshot(), 2);
    }

    private static void refusedWhileDown() {
        Desk desk = new Desk(4);
        Due.record(desk, 1, 3, 1);
        Due.is("cut()", desk.cut(), true);
        Due.is("record() down", desk.record(), 0);
        Due.is("written", desk.state(5), 1);
        Due.is("start()", desk.start(), 1);
        Due.stands("as before", desk, 1, 0, 7, 0);
    }

    private static void manyEmptyRecords() {
        Desk desk = new Desk(2);
        for (int i = 0; i < 250; i++) {
            Due.record(desk, 0, 0, 1);
        }
        Due.stands("250 empty ones", desk, 250, 0, 1000, 0);
        Due.is("written", desk.state(5), 250);
        Due.record(desk, 0, 0, 0);
        Due.bytes("last", desk, 249);
        Due.is("none behind", desk.size(250), -1);
    }
}
