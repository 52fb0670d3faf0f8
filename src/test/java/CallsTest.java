/** "An object is used for at most 512 calls after it has been made": the last is as the first. */
public final class CallsTest {
    public static void main(String[] args) {
        recordsToTheLastCall();
        putsToTheLastCall();
        roundsToTheLastCall();
        startsToTheLastCall();
        askedToTheLastCall();
        Due.end();
    }

    private static void recordsToTheLastCall() {
        Desk desk = new Desk(32);
        for (int i = 0; i < 510; i++) {
            Due.is("record() " + i, desk.record(), 1);
        }
        Due.is("the last record", desk.size(509), 0);
        Due.is("records", desk.state(1), 510);
        isUsedUp(desk);
    }

    private static void putsToTheLastCall() {
        Desk desk = new Desk(32);
        for (int i = 0; i < 509; i++) {
            Due.is("put " + i, desk.put(i, 8), true);
        }
        Due.is("record()", desk.record(), 1);
        Due.is("size(0)", desk.size(0), 4072);
        Due.is("byteOf(0, 4071)", desk.byteOf(0, 4071), 508 % 256);
        isUsedUp(desk);
    }

    private static void roundsToTheLastCall() {
        Desk desk = new Desk(17);
        for (int i = 0; i < 127; i++) {
            Due.is("fill " + i, desk.fill(i, 8000), true);
            Due.is("record() " + i, desk.record(), 1);
            Due.is("fill " + i, desk.fill(i, 8000), true);
            Due.is("snapshot() " + i, desk.snapshot(), 1);
        }
        Due.is("begin", desk.state(2), 127 * 8500);
        Due.is("written", desk.state(5), 127 * 34);
        Due.is("fill", desk.fill(127, 1), true);
        Due.is("the last call", desk.byteOf(-1, 7999), 126);
        isUsedUp(desk);
    }

    private static void startsToTheLastCall() {
        Desk desk = new Desk(2);
        Due.is("put(9, 1)", desk.put(9L, 1), true);
        Due.is("record()", desk.record(), 1);
        for (int i = 0; i < 254; i++) {
            Due.is("cut() " + i, desk.cut(), true);
            Due.is("start() " + i, desk.start(), 1);
        }
        Due.is("byteOf(0, 0)", desk.byteOf(0, 0), 9);
        Due.is("written", desk.state(5), 255);
        isUsedUp(desk);
    }

    private static void askedToTheLastCall() {
        Desk desk = new Desk(2);
        Due.is("fill(7, 508)", desk.fill(7, 508), true);
        Due.is("snapshot()", desk.snapshot(), 1);
        for (int i = 0; i < 508; i++) {
            Due.is("byteOf(-1, " + i + ")", desk.byteOf(-1, i), 7);
        }
        Due.is("byteOf(-1, 508)", desk.byteOf(-1, 508), -1);
        Due.is("written", desk.state(5), 3);
        isUsedUp(desk);
    }

    private static void isUsedUp(Desk desk) {
        Due.is("calls left", desk.callsLeft(), 0);
    }
}
