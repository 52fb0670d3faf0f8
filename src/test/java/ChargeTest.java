/** Promise 8: charge. */
public final class ChargeTest {
    public static void main(String[] args) {
        countsAllBlocks();
        edges();
        theLastSaidHolds();
        saidWhileDown();
        isGoneWithThePower();
        Due.end();
    }

    private static void countsAllBlocks() {
        Desk desk = new Desk(8);
        Due.is("charge(6)", desk.charge(6), true);
        Due.record(desk, 1, 600, 1);
        Due.snapshot(desk, 2, 600, 1);
        Due.record(desk, 3, 1, 1);
        Due.is("written", desk.state(5), 6);
        Due.is("up, for none was wanted more", desk.state(0), 1);
        Due.record(desk, 4, 1, 2);
        Due.is("written", desk.state(5), 6);
        Due.is("start()", desk.start(), 1);
        Due.stands("after", desk, 1, 1000, 1005, 0);
    }

    private static void edges() {
        Desk desk = new Desk(32);
        Due.is("charge(999)", desk.charge(999), true);
        int[] wrong = {-1, 1000, 1001, -999, Integer.MIN_VALUE, Integer.MAX_VALUE};
        for (int n : wrong) {
            Due.is("charge(" + n + ")", desk.charge(n), false);
        }
        int written = 0;
        while (written + 17 <= 999) {
            Due.snapshot(desk, 1, 8000, 1);
            written += 17;
        }
        Due.snapshot(desk, 1, 8000, 2);
        Due.is("written", desk.state(5), 999);

        Desk none = new Desk(4);
        Due.is("charge(0)", none.charge(0), true);
        Due.is("charge(-1)", none.charge(-1), false);
        Due.is("charge(1000)", none.charge(1000), false);
        Due.record(none, 1, 1, 2);
        Due.is("written", none.state(5), 0);
    }

    private static void theLastSaidHolds() {
        Desk desk = new Desk(4);
        Due.is("charge(0)", desk.charge(0), true);
        Due.is("charge(2)", desk.charge(2), true);
        Due.record(desk, 1, 600, 1);
        Due.is("charge(5)", desk.charge(5), true);
        Due.is("charge(1)", desk.charge(1), true);
        Due.record(desk, 1, 600, 2);
    }

    private static void saidWhileDown() {
        Desk desk = new Desk(4);
        Due.is("cut()", desk.cut(), true);
        Due.is("charge(1000) down", desk.charge(1000), false);
        Due.is("charge(-1) down", desk.charge(-1), false);
        Due.is("charge(2) down", desk.charge(2), true);
        Due.is("still down", desk.state(0), 0);
        Due.is("start()", desk.start(), 1);
        Due.record(desk, 1, 1, 1);
        Due.record(desk, 1, 1, 2);
        Due.is("written", desk.state(5), 2);
    }

    private static void isGoneWithThePower() {
        Desk desk = new Desk(32);
        Due.is("charge(3)", desk.charge(3), true);
        Due.snapshot(desk, 1, 8000, 2);
        Due.is("start()", desk.start(), 1);
        for (int i = 0; i < 100; i++) {
            Due.snapshot(desk, 1, 8000, 1);
        }
        Due.is("written", desk.state(5), 3 + 1 + 1700);
    }
}
