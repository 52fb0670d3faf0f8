/** Promise 9: size. */
public final class SizeTest {
    public static void main(String[] args) {
        Desk desk = new Desk(32);
        Due.is("size(-1) at first", desk.size(-1), 0);
        Due.is("size(0) at first", desk.size(0), -1);
        int[] sizes = {0, 1, 8000, 0, 499, 500};
        for (int size : sizes) {
            Due.record(desk, 1, size, 1);
        }
        Due.is("fill(1, 77)", desk.fill(1, 77), true);
        for (int k = 0; k < sizes.length; k++) {
            Due.is("size(" + k + ")", desk.size(k), sizes[k]);
        }
        Due.is("the hand is no record", desk.size(sizes.length), -1);
        int[] none = {-2, -3, 7, 1000, 4000, 4001, Integer.MIN_VALUE, Integer.MAX_VALUE};
        for (int k : none) {
            Due.is("size(" + k + ")", desk.size(k), -1);
        }
        Due.is("cut()", desk.cut(), true);
        for (int k = -2; k < 8; k++) {
            Due.is("size(" + k + ") down", desk.size(k), -1);
        }
        Due.is("start()", desk.start(), 1);
        Due.is("size(2) up again", desk.size(2), 8000);
        Due.snapshot(desk, 3, 8000, 1);
        Due.is("size(-1)", desk.size(-1), 8000);
        Due.is("size(0) when all went", desk.size(0), -1);
        Due.record(desk, 1, 2, 1);
        Due.is("size(0)", desk.size(0), 2);
        Due.is("size(1) of the old row", desk.size(1), -1);
        Due.end();
    }
}
