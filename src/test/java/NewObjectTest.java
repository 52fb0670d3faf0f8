/** Promise 1: a new object is up, with nothing, and has 2 .. 32 journal blocks. */
public final class NewObjectTest {
    public static void main(String[] args) {
        isUpWithNothing();
        for (int blocks = 2; blocks <= 32; blocks++) {
            journalHas(blocks, blocks);
        }
        int[] others = {1, 0, -1, 33, 34, 64, 1000, -32, Integer.MIN_VALUE, Integer.MAX_VALUE};
        for (int blocks : others) {
            journalHas(blocks, 32);
        }
        objectsShareNothing();
        Due.end();
    }

    private static void isUpWithNothing() {
        Desk desk = new Desk(4);
        Due.stands("new", desk, 0, 0, 0, 0);
        Due.is("new: written", desk.state(5), 0);
        Due.bytes("new", desk, -1);
        Due.is("new: size(0)", desk.size(0), -1);
        Due.is("new: start()", desk.start(), 0);
    }

    private static void journalHas(int blocks, int due) {
        Desk exact = new Desk(blocks);
        int left = due * 500;
        while (left > 8004) {
            Due.record(exact, 1, 4000, 1);
            left -= 4004;
        }
        Due.is("fill to one too many", exact.fill(2, Math.min(8000, left - 3)), true);
        if (left - 3 <= 8000) {
            Due.is("record() one place too long for " + blocks, exact.record(), 0);
        }
        Due.is("cut()", exact.cut(), true);
        Due.is("start()", exact.start(), 1);
        Due.record(exact, 2, left - 4, 1);
        Due.is("end of " + blocks, exact.state(3), due * 500);
        Due.record(exact, 0, 0, 0);
    }

    private static void objectsShareNothing() {
        Desk one = new Desk(2);
        Desk other = new Desk(2);
        Due.record(one, 1, 5, 1);
        Due.is("fill on one", one.fill(2, 6), true);
        Due.stands("other", other, 0, 0, 0, 0);
        Due.record(other, 9, 5, 1);
        Due.allAlike("one", one, 0, 5, 1);
    }
}
