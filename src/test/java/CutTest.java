/** Promise 6: cut. */
public final class CutTest {
    public static void main(String[] args) {
        goesDownWithWhatWasDone();
        takesTheChargeAway();
        writesNothing();
        Due.end();
    }

    private static void goesDownWithWhatWasDone() {
        Desk desk = new Desk(4);
        Due.snapshot(desk, 1, 7, 1);
        Due.record(desk, 2, 5, 1);
        Due.is("fill(3, 9)", desk.fill(3, 9), true);
        Due.is("cut()", desk.cut(), true);
        Due.is("up", desk.state(0), 0);
        Due.is("cut() down", desk.cut(), false);
        Due.is("start()", desk.start(), 1);
        Due.stands("as before", desk, 1, 0, 9, 0);
        Due.allAlike("as before", desk, -1, 7, 1);
        Due.allAlike("as before", desk, 0, 5, 2);
        Due.is("cut() again", desk.cut(), true);
    }

    private static void takesTheChargeAway() {
        Desk desk = new Desk(4);
        Due.is("charge(0)", desk.charge(0), true);
        Due.is("cut()", desk.cut(), true);
        Due.is("start()", desk.start(), 1);
        Due.record(desk, 1, 1000, 1);
    }

    private static void writesNothing() {
        Desk desk = new Desk(4);
        Due.is("cut()", desk.cut(), true);
        Due.is("written", desk.state(5), 0);
        Due.is("charge(0)", desk.charge(0), true);
        Due.is("cut() down", desk.cut(), false);
        Due.is("the refused cut keeps the charge: start()", desk.start(), 2);
    }
}
