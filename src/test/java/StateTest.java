/** Promise 11: state. */
public final class StateTest {
    public static void main(String[] args) {
        Desk desk = new Desk(4);
        Due.record(desk, 1, 700, 1);
        Due.snapshot(desk, 1, 3, 1);
        Due.record(desk, 1, 10, 1);
        Due.record(desk, 1, 20, 1);
        Due.is("fill(1, 5)", desk.fill(1, 5), true);
        Due.stands("up", desk, 2, 1000, 1038, 5);
        Due.is("written", desk.state(5), 6);
        noOtherWhat(desk);
        Due.is("cut()", desk.cut(), true);
        Due.is("state(0) down", desk.state(0), 0);
        for (int what = 1; what <= 4; what++) {
            Due.is("state(" + what + ") down", desk.state(what), -1);
        }
        Due.is("state(5) down", desk.state(5), 6);
        noOtherWhat(desk);
        Due.is("start()", desk.start(), 1);
        Due.stands("up again", desk, 2, 1000, 1038, 0);
        Due.is("written", desk.state(5), 7);
        Due.end();
    }

    private static void noOtherWhat(Desk desk) {
        int[] others = {-1, -2, 6, 7, 100, 256, 261, Integer.MIN_VALUE, Integer.MAX_VALUE};
        for (int what : others) {
            Due.is("state(" + what + ")", desk.state(what), -1);
        }
    }
}
