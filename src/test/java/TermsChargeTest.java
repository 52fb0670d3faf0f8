/** Terms, "The CHARGE". */
public final class TermsChargeTest {
    public static void main(String[] args) {
        soManyBlocksAndNoMore();
        theGreatestCharge();
        allCanBeWrittenAtFirst();
        allCanBeWrittenWhenThePowerWent();
        callsThatWriteNothingTakeNothing();
        downWithWhatWasDone();
        noBytesInHand();
        lastsThroughAStart();
        isGoneWithACut();
        theLaterOneHolds();
        Due.end();
    }

    /** "after charge(n) n more blocks can be written; the next one is not, the power goes" */
    private static void soManyBlocksAndNoMore() {
        for (int n = 0; n <= 100; n++) {
            Desk desk = new Desk(2);
            Due.is("charge(" + n + ")", desk.charge(n), true);
            for (int i = 0; i < n; i++) {
                Due.is("block " + i + " of " + n, desk.snapshot(), 1);
            }
            Due.is("up after " + n, desk.state(0), 1);
            Due.is("written of " + n, desk.state(5), n);
            Due.is("one more than " + n, desk.snapshot(), 2);
            Due.is("down after " + n, desk.state(0), 0);
            Due.is("written of " + n, desk.state(5), n);
        }
    }

    /** 58 times 17 blocks, and 13. */
    private static void theGreatestCharge() {
        for (int n = 998; n <= 999; n++) {
            Desk desk = new Desk(2);
            Due.is("charge(" + n + ")", desk.charge(n), true);
            for (int i = 0; i < 58; i++) {
                Due.snapshot(desk, 1, 8000, 1);
            }
            Due.is("written", desk.state(5), 986);
            Due.snapshot(desk, 2, 6000, n == 999 ? 1 : 2);
            Due.is("written of " + n, desk.state(5), n);
            if (n == 999) {
                Due.is("the 1000th", desk.snapshot(), 2);
                Due.is("written of " + n, desk.state(5), 999);
            }
        }
    }

    /** "(all can be written, as at first)" */
    private static void allCanBeWrittenAtFirst() {
        Desk desk = new Desk(2);
        for (int i = 0; i < 120; i++) {
            Due.snapshot(desk, 1, 8000, 1);
        }
        Due.is("written", desk.state(5), 2040);
    }

    /** "and no charge any more" */
    private static void allCanBeWrittenWhenThePowerWent() {
        for (int way = 0; way < 3; way++) {
            Desk desk = new Desk(4);
            if (way == 2) {
                Due.is("cut()", desk.cut(), true);
            }
            Due.is("charge(0)", desk.charge(0), true);
            int answer = way == 0 ? desk.record() : way == 1 ? desk.snapshot() : desk.start();
            Due.is("the power went in way " + way, answer, 2);
            Due.is("start()", desk.start(), 1);
            for (int i = 0; i < 60; i++) {
                Due.snapshot(desk, 1, 8000, 1);
            }
            Due.is("written in way " + way, desk.state(5), 1021);
        }
    }

    private static void callsThatWriteNothingTakeNothing() {
        Desk desk = new Desk(2);
        Due.is("charge(0)", desk.charge(0), true);
        Due.is("put(1, 8)", desk.put(1L, 8), true);
        Due.is("fill(1, 8000)", desk.fill(1, 8000), false);
        Due.is("fill(1, 7992)", desk.fill(1, 7992), true);
        Due.is("record() full", desk.record(), 0);
        Due.is("start() up", desk.start(), 0);
        Due.is("charge(-1)", desk.charge(-1), false);
        Due.is("charge(1000)", desk.charge(1000), false);
        Due.is("size(-1)", desk.size(-1), 0);
        Due.is("byteOf(-1, 0)", desk.byteOf(-1, 0), -1);
        Due.stands("up still", desk, 0, 0, 0, 8000);
        Due.is("written", desk.state(5), 0);
        Due.is("snapshot()", desk.snapshot(), 2);
        Due.is("down", desk.state(0), 0);
    }

    /** "the store is down, with what was done (as it was before the call)" */
    private static void downWithWhatWasDone() {
        for (int n = 0; n < 6; n++) {
            for (int asSnapshot = 0; asSnapshot < 2; asSnapshot++) {
                Desk desk = new Desk(8);
                Due.record(desk, 1, 700, 1);
                Due.snapshot(desk, 2, 800, 1);
                Due.record(desk, 3, 0, 1);
                Due.record(desk, 4, 490, 1);
                Due.is("charge", desk.charge(n), true);
                // Places 1498 .. 3999 lie in six blocks; 2498 bytes are five blocks, and one more.
                Due.is("fill", desk.fill(5, 2498), true);
                Due.is("cut off", asSnapshot == 1 ? desk.snapshot() : desk.record(), 2);
                Due.is("down", desk.state(0), 0);
                Due.is("start()", desk.start(), 1);
                Due.stands("as before", desk, 2, 1000, 1498, 0);
                Due.allAlike("as before", desk, -1, 800, 2);
                Due.bytes("as before", desk, 0);
                Due.allAlike("as before", desk, 1, 490, 4);
                Due.is("no other one", desk.size(2), -1);
                Due.record(desk, 6, 3, 1);
                Due.stands("goes on", desk, 3, 1000, 1505, 0);
                Due.bytes("goes on", desk, 2, 6, 6, 6);
            }
        }
    }

    /** "no bytes in hand" */
    private static void noBytesInHand() {
        Desk desk = new Desk(4);
        Due.is("charge(0)", desk.charge(0), true);
        Due.record(desk, 1, 9, 2);
        Due.is("in hand, down", desk.state(4), -1);
        Due.is("start()", desk.start(), 1);
        Due.is("in hand", desk.state(4), 0);
        Due.is("record()", desk.record(), 1);
        Due.bytes("nothing was in hand", desk, 0);
        Due.is("charge(1)", desk.charge(1), true);
        Due.snapshot(desk, 2, 8000, 2);
        Due.is("start()", desk.start(), 1);
        Due.is("fill(3, 8000)", desk.fill(3, 8000), true);
        Due.is("snapshot()", desk.snapshot(), 1);
        Due.allAlike("the new bytes alone", desk, -1, 8000, 3);
    }

    private static void lastsThroughAStart() {
        Desk desk = new Desk(4);
        Due.is("cut()", desk.cut(), true);
        Due.is("charge(3)", desk.charge(3), true);
        Due.is("start()", desk.start(), 1);
        Due.record(desk, 1, 600, 1);
        Due.record(desk, 1, 1, 2);
        Due.is("written", desk.state(5), 3);
    }

    /** Promise 6 says "The power goes now", and with it goes the charge. */
    private static void isGoneWithACut() {
        for (int n = 0; n <= 2; n++) {
            Desk desk = new Desk(4);
            Due.is("charge", desk.charge(n), true);
            Due.is("fill(1, 5)", desk.fill(1, 5), true);
            Due.is("cut()", desk.cut(), true);
            Due.is("start()", desk.start(), 1);
            Due.stands("no bytes in hand", desk, 0, 0, 0, 0);
            Due.record(desk, 1, 1900, 1);
            Due.is("written", desk.state(5), 5);
        }
    }

    private static void theLaterOneHolds() {
        int[] said = {0, 1, 2, 5, 999};
        for (int first : said) {
            for (int later = 0; later <= 3; later++) {
                Desk desk = new Desk(4);
                Due.is("charge", desk.charge(first), true);
                Due.is("charge", desk.charge(later), true);
                for (int i = 0; i < later; i++) {
                    Due.is(later + " behind " + first, desk.record(), 1);
                }
                Due.is("one more than " + later + " behind " + first, desk.record(), 2);
            }
        }
        Desk desk = new Desk(4);
        Due.is("charge(2)", desk.charge(2), true);
        Due.is("record()", desk.record(), 1);
        Due.is("charge(2)", desk.charge(2), true);
        Due.is("record()", desk.record(), 1);
        Due.is("record()", desk.record(), 1);
        Due.is("record()", desk.record(), 2);
    }
}
