/** Terms, the second paragraph: the places of records, and where the journal begins and ends. */
public final class TermsPlacesTest {
    public static void main(String[] args) {
        aRecordTakesFourPlacesMore();
        theFirstAndLastPlaceOfABlock();
        theLastPlaceOfEachBlock();
        theJournalBeginsBehindTheBlockOfItsLastPlace();
        itBeginsWhereItBeganWithoutARecord();
        whatWasNotDoneMovesNothing();
        manyRoundsOnFewBlocks();
        Due.end();
    }

    /** "A record takes 4 places and one for each of its bytes, from where the journal ENDS" */
    private static void aRecordTakesFourPlacesMore() {
        Desk desk = new Desk(32);
        int[] sizes = {0, 1, 0, 0, 487, 0, 496, 495, 0, 5000, 2, 8000};
        int[] ends = {4, 9, 13, 17, 508, 512, 1012, 1511, 1515, 6519, 6525, 14529};
        Due.is("the end at first", desk.state(3), 0);
        for (int i = 0; i < sizes.length; i++) {
            Due.record(desk, i, sizes[i], 1);
            Due.stands("after record " + i, desk, i + 1, 0, ends[i], 0);
        }
        for (int i = 0; i < sizes.length; i++) {
            Due.allAlike("record " + i, desk, i, sizes[i], i);
        }
    }

    /** "(block b has 500 * b .. 500 * b + 499)", by the blocks a record of 4 places lies in. */
    private static void theFirstAndLastPlaceOfABlock() {
        int[] starts = {494, 495, 496, 497, 498, 499, 500, 501};
        int[] blocks = {1, 1, 1, 2, 2, 2, 1, 1};
        for (int b = 0; b < 15; b++) {
            for (int i = 0; i < starts.length; i++) {
                Desk desk = new Desk(32);
                Due.record(desk, 1, 500 * b + starts[i] - 4, 1);
                int before = desk.state(5);
                Due.record(desk, 0, 0, 1);
                Due.is("blocks from place " + starts[i] + " of block " + b,
                        desk.state(5) - before, blocks[i]);
            }
        }
    }

    /** As before, by the journal's last place, in each block that a journal can have. */
    private static void theLastPlaceOfEachBlock() {
        for (int b = 0; b < 32; b++) {
            lastPlaceIn(b, 500 * b + 498);
            lastPlaceIn(b, 500 * b + 499);
            if (b < 31) {
                lastPlaceIn(b + 1, 500 * b + 500);
            }
        }
    }

    private static void lastPlaceIn(int block, int last) {
        Desk desk = new Desk(32);
        boolean byTwo = last > 8003;
        if (byTwo) {
            Due.record(desk, 1, 8000, 1);
        }
        Due.record(desk, 2, last + 1 - desk.state(3) - 4, 1);
        Due.is("the end behind " + last, desk.state(3), last + 1);
        // Where the first record ends, in block 16, the second one writes that block again.
        Due.is("blocks up to place " + last, desk.state(5), block + (byTwo ? 2 : 1));
        Due.is("snapshot()", desk.snapshot(), 1);
        int begin = 500 * (block + 1);
        Due.stands("begins behind " + last, desk, 0, begin, begin, 0);
    }

    /** "at the beginning of the block behind the one that has its last place" */
    private static void theJournalBeginsBehindTheBlockOfItsLastPlace() {
        int[] sizes = {0, 1, 494, 495, 496, 497, 994, 995, 996, 997, 7995, 7996, 7997, 8000};
        int[] moves = {1, 1, 1, 1, 1, 2, 2, 2, 2, 3, 16, 16, 17, 17};
        for (int i = 0; i < sizes.length; i++) {
            Desk desk = new Desk(17);
            for (int round = 1; round <= 20; round++) {
                Due.record(desk, round, sizes[i], 1);
                Due.snapshot(desk, round, 3, 1);
                int begin = 500 * moves[i] * round;
                Due.stands(sizes[i] + ", round " + round, desk, 0, begin, begin, 0);
            }
        }
    }

    /** "(at first, and if there was no record since it began, where it began before)" */
    private static void itBeginsWhereItBeganWithoutARecord() {
        Desk desk = new Desk(2);
        for (int begin = 0; begin <= 3000; begin += 500) {
            for (int i = 0; i < 3; i++) {
                Due.snapshot(desk, i, 600 * i, 1);
                Due.stands("no record", desk, 0, begin, begin, 0);
            }
            Due.is("cut()", desk.cut(), true);
            Due.is("start()", desk.start(), 1);
            Due.is("snapshot()", desk.snapshot(), 1);
            Due.stands("no record since the start", desk, 0, begin, begin, 0);
            // A record of no bytes is a record.
            Due.is("record()", desk.record(), 1);
            Due.is("snapshot()", desk.snapshot(), 1);
            Due.stands("an empty record", desk, 0, begin + 500, begin + 500, 0);
        }
    }

    private static void whatWasNotDoneMovesNothing() {
        Desk desk = new Desk(4);
        Due.record(desk, 1, 1, 1);
        Due.snapshot(desk, 1, 1, 1);
        Due.is("charge(2)", desk.charge(2), true);
        Due.record(desk, 2, 1400, 2);
        Due.is("start()", desk.start(), 1);
        Due.stands("a record cut off", desk, 0, 500, 500, 0);
        Due.snapshot(desk, 3, 1, 1);
        Due.stands("no record since it began", desk, 0, 500, 500, 0);
        Due.is("fill(4, 1997)", desk.fill(4, 1997), true);
        Due.is("record() full", desk.record(), 0);
        Due.is("snapshot()", desk.snapshot(), 1);
        Due.stands("a record refused", desk, 0, 500, 500, 0);
        Due.record(desk, 5, 1, 1);
        Due.is("charge(1)", desk.charge(1), true);
        Due.snapshot(desk, 6, 1, 2);
        Due.is("start()", desk.start(), 1);
        Due.stands("a snapshot cut off", desk, 1, 500, 505, 0);
        Due.record(desk, 7, 2, 1);
        Due.stands("behind the record", desk, 2, 500, 511, 0);
        Due.snapshot(desk, 8, 1, 1);
        Due.stands("a snapshot done", desk, 0, 1000, 1000, 0);
    }

    /** Each block is used again and again: what lay there before does not come back. */
    private static void manyRoundsOnFewBlocks() {
        for (int n = 2; n <= 3; n++) {
            Desk desk = new Desk(n);
            int begin = 0;
            for (int round = 1; round <= 40; round++) {
                Due.record(desk, round, 100, 1);
                if (round % 3 != 0) {
                    Due.record(desk, round + 100, 500, 1);
                }
                Due.is("cut()", desk.cut(), true);
                Due.is("start()", desk.start(), 1);
                int records = round % 3 != 0 ? 2 : 1;
                Due.is("records in round " + round, desk.state(1), records);
                Due.allAlike("round " + round, desk, 0, 100, round);
                if (records == 2) {
                    Due.allAlike("round " + round, desk, 1, 500, round + 100);
                }
                Due.snapshot(desk, round, 2, 1);
                begin += records == 2 ? 1000 : 500;
                Due.is("begin of round " + round, desk.state(2), begin);
            }
        }
    }
}
