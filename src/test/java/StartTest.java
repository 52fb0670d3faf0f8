/** Promise 7: start. */
public final class StartTest {
    public static void main(String[] args) {
        writesOneBlock();
        refusedWhileUp();
        thePowerGoesBefore();
        Due.end();
    }

    private static void writesOneBlock() {
        Desk desk = new Desk(4);
        Due.record(desk, 1, 10, 1);
        Due.is("cut()", desk.cut(), true);
        Due.is("start()", desk.start(), 1);
        Due.is("written", desk.state(5), 2);
        Due.stands("up", desk, 1, 0, 14, 0);
        Due.is("cut()", desk.cut(), true);
        Due.is("charge(1)", desk.charge(1), true);
        Due.is("start()", desk.start(), 1);
        Due.is("written", desk.state(5), 3);
        Due.record(desk, 1, 10, 2);
        Due.is("written", desk.state(5), 3);
    }

    private static void refusedWhileUp() {
        Desk desk = new Desk(4);
        Due.is("fill(1, 4)", desk.fill(1, 4), true);
        Due.is("charge(0)", desk.charge(0), true);
        Due.is("start() up", desk.start(), 0);
        Due.stands("up", desk, 0, 0, 0, 4);
        Due.is("written", desk.state(5), 0);
        Due.is("the refused start keeps the charge: record()", desk.record(), 2);
    }

    private static void thePowerGoesBefore() {
        Desk desk = new Desk(4);
        Due.snapshot(desk, 1, 7, 1);
        Due.record(desk, 2, 5, 1);
        Due.is("cut()", desk.cut(), true);
        for (int i = 0; i < 3; i++) {
            Due.is("charge(0)", desk.charge(0), true);
            Due.is("start()", desk.start(), 2);
            Due.is("up", desk.state(0), 0);
            Due.is("written", desk.state(5), 3);
        }
        Due.is("start() without charge", desk.start(), 1);
        Due.is("written", desk.state(5), 4);
        Due.stands("as before", desk, 1, 0, 9, 0);
        Due.allAlike("as before", desk, -1, 7, 1);
        Due.allAlike("as before", desk, 0, 5, 2);
        Due.record(desk, 1, 1000, 1);
    }
}
