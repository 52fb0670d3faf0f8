/**
 * Terms: "It is FULL for a record if its last place would be in a block that is N or more behind
 * the one in which the journal begins."
 */
public final class TermsFullTest {
    public static void main(String[] args) {
        for (int n = 2; n <= 32; n++) {
            int[] blocksBefore = {0, 1, n - 1, n, n + 1};
            for (int before : blocksBefore) {
                lastPlaceOfTheLastBlock(n, before);
                anEmptyRecordAtTheEnd(n, before);
            }
        }
        oneRecordForAll();
        theLargestRecord();
        aFullJournalIsNoLongerFullBehindASnapshot();
        whatIsRefusedStaysInHand();
        aShorterOneIsTaken();
        Due.end();
    }

    /** A desk of n blocks whose journal begins that many blocks behind the first. */
    private static Desk beginning(int n, int before) {
        Desk desk = new Desk(n);
        for (int i = 0; i < before; i++) {
            Due.is("record()", desk.record(), 1);
            Due.is("snapshot()", desk.snapshot(), 1);
        }
        Due.stands("begins", desk, 0, 500 * before, 500 * before, 0);
        return desk;
    }

    /** Leaves so many places, by records of at most 4004 places. */
    private static void leave(Desk desk, int n, int places) {
        int left = 500 * n - places;
        while (left > 0) {
            // What is left behind a step must be none, or enough for a record.
            int step = left <= 4004 ? left : Math.min(4004, left - 4);
            Due.record(desk, 1, step - 4, 1);
            left -= step;
        }
        Due.is("places left", desk.state(2) + 500 * n - desk.state(3), places);
    }

    private static void lastPlaceOfTheLastBlock(int n, int before) {
        Desk taken = beginning(n, before);
        leave(taken, n, 300);
        int end = taken.state(3);
        int records = taken.state(1);
        Due.record(taken, 2, 296, 1);
        Due.stands("to the last place", taken, records + 1, 500 * before, end + 300, 0);
        Due.allAlike("to the last place", taken, records, 296, 2);

        Desk refused = beginning(n, before);
        leave(refused, n, 300);
        int written = refused.state(5);
        Due.record(refused, 2, 297, 0);
        Due.stands("one place more", refused, records, 500 * before, end, 297);
        Due.is("one place more: written", refused.state(5), written);
        Due.is("one place more: size", refused.size(records), -1);
    }

    private static void anEmptyRecordAtTheEnd(int n, int before) {
        for (int left = 0; left <= 5; left++) {
            Desk desk = beginning(n, before);
            leave(desk, n, left);
            int records = desk.state(1);
            int end = desk.state(3);
            boolean fits = left >= 4;
            Due.is("record() of none in " + left, desk.record(), fits ? 1 : 0);
            Due.stands("record() of none in " + left, desk, records + (fits ? 1 : 0),
                    500 * before, end + (fits ? 4 : 0), 0);
        }
    }

    private static void oneRecordForAll() {
        for (int n = 2; n <= 16; n++) {
            Desk desk = new Desk(n);
            Due.is("fill", desk.fill(3, 500 * n - 4), true);
            Due.is("fill", desk.fill(3, 1), true);
            Due.is("record() of one too many for " + n, desk.record(), 0);
            Due.is("cut()", desk.cut(), true);
            Due.is("start()", desk.start(), 1);
            Due.record(desk, 3, 500 * n - 4, 1);
            Due.stands("one for all " + n, desk, 1, 0, 500 * n, 0);
            Due.record(desk, 0, 0, 0);
            Due.record(desk, 3, 8000, 0);
        }
    }

    /** 8004 places are 17 blocks, begun at the first place or at any up to the 497th. */
    private static void theLargestRecord() {
        Desk sixteen = new Desk(16);
        Due.record(sixteen, 1, 8000, 0);
        Desk seventeen = new Desk(17);
        Due.record(seventeen, 1, 8000, 1);
        Due.stands("largest", seventeen, 1, 0, 8004, 0);
        Desk last = new Desk(17);
        Due.record(last, 1, 492, 1);
        Due.record(last, 1, 8000, 1);
        Due.stands("largest to the last place", last, 2, 0, 8500, 0);
        Desk beyond = new Desk(17);
        Due.record(beyond, 1, 493, 1);
        Due.record(beyond, 1, 8000, 0);
        Due.stands("largest beyond the last place", beyond, 1, 0, 497, 8000);
        Desk two = new Desk(32);
        Due.record(two, 1, 8000, 1);
        Due.record(two, 1, 8000, 0);
        Due.stands("two of the largest", two, 1, 0, 8004, 8000);
    }

    private static void aFullJournalIsNoLongerFullBehindASnapshot() {
        Desk desk = new Desk(2);
        for (int round = 0; round < 30; round++) {
            Due.record(desk, round, 996, 1);
            Due.stands("full", desk, 1, 1000 * round, 1000 * round + 1000, 0);
            Due.record(desk, 0, 0, 0);
            Due.is("snapshot()", desk.snapshot(), 1);
            Due.stands("behind it", desk, 0, 1000 * round + 1000, 1000 * round + 1000, 0);
        }
    }

    private static void whatIsRefusedStaysInHand() {
        Desk desk = new Desk(2);
        Due.is("fill(1, 500)", desk.fill(1, 500), true);
        Due.is("fill(2, 497)", desk.fill(2, 497), true);
        Due.is("record()", desk.record(), 0);
        Due.is("record() again", desk.record(), 0);
        Due.is("put(3, 1)", desk.put(3L, 1), true);
        Due.stands("in hand", desk, 0, 0, 0, 998);
        Due.is("snapshot()", desk.snapshot(), 1);
        Reader reader = new Reader(desk);
        Due.is("size(-1)", reader.size(-1), 998);
        for (int i = 0; i < 998; i++) {
            Due.is("byteOf(-1, " + i + ")", reader.byteOf(-1, i), i < 500 ? 1 : i < 997 ? 2 : 3);
        }
    }

    private static void aShorterOneIsTaken() {
        Desk desk = new Desk(2);
        Due.record(desk, 1, 600, 1);
        Due.record(desk, 2, 393, 0);
        Due.is("cut()", desk.cut(), true);
        Due.is("start()", desk.start(), 1);
        Due.record(desk, 3, 392, 1);
        Due.stands("shorter", desk, 2, 0, 1000, 0);
        Due.allAlike("shorter", desk, 1, 392, 3);
    }
}
