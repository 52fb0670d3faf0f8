import java.util.Arrays;

/** Promise 2: put. */
public final class PutTest {
    public static void main(String[] args) {
        highestByteFirst();
        comesBehindWhatIsInHand();
        refusesOtherCounts();
        takesTheLeastAndTheGreatestLong();
        refusesMoreThan8000();
        eachCountUpToTheLastByte();
        refusedWhileDown();
        Due.end();
    }

    private static void highestByteFirst() {
        Desk desk = new Desk(32);
        for (int n = 1; n <= 8; n++) {
            Due.is("put(.., " + n + ")", desk.put(0xF1E2D3C4B5A69788L, n), true);
            Due.is("in hand", desk.state(4), n);
            Due.is("record()", desk.record(), 1);
        }
        Due.bytes("1", desk, 0, 0x88);
        Due.bytes("2", desk, 1, 0x97, 0x88);
        Due.bytes("3", desk, 2, 0xA6, 0x97, 0x88);
        Due.bytes("4", desk, 3, 0xB5, 0xA6, 0x97, 0x88);
        Due.bytes("5", desk, 4, 0xC4, 0xB5, 0xA6, 0x97, 0x88);
        Due.bytes("6", desk, 5, 0xD3, 0xC4, 0xB5, 0xA6, 0x97, 0x88);
        Due.bytes("7", desk, 6, 0xE2, 0xD3, 0xC4, 0xB5, 0xA6, 0x97, 0x88);
        Due.bytes("8", desk, 7, 0xF1, 0xE2, 0xD3, 0xC4, 0xB5, 0xA6, 0x97, 0x88);
        Due.is("put(-1, 3)", desk.put(-1L, 3), true);
        Due.is("put(MIN, 8)", desk.put(Long.MIN_VALUE, 8), true);
        Due.is("snapshot()", desk.snapshot(), 1);
        Due.bytes("signs", desk, -1, 255, 255, 255, 128, 0, 0, 0, 0, 0, 0, 0);
    }

    private static void comesBehindWhatIsInHand() {
        Desk desk = new Desk(4);
        Due.is("fill(7, 2)", desk.fill(7, 2), true);
        Due.is("put(0x0102, 2)", desk.put(0x0102L, 2), true);
        Due.is("put(3, 1)", desk.put(3L, 1), true);
        Due.is("in hand", desk.state(4), 5);
        Due.is("record()", desk.record(), 1);
        Due.bytes("behind", desk, 0, 7, 7, 1, 2, 3);
    }

    private static void refusesOtherCounts() {
        Desk desk = new Desk(4);
        Due.is("put(5, 1)", desk.put(5L, 1), true);
        int[] wrong = {0, -1, -8, 9, 10, 16, 8000, 257, Integer.MIN_VALUE, Integer.MAX_VALUE};
        for (int n : wrong) {
            Due.is("put(1, " + n + ")", desk.put(1L, n), false);
            Due.is("in hand", desk.state(4), 1);
        }
        Due.is("record()", desk.record(), 1);
        Due.bytes("refused puts", desk, 0, 5);
    }

    private static void takesTheLeastAndTheGreatestLong() {
        for (int n = 1; n <= 8; n++) {
            Desk desk = new Desk(4);
            Due.is("put(least, " + n + ")", desk.put(Long.MIN_VALUE, n), true);
            Due.is("record()", desk.record(), 1);
            Due.is("put(greatest, " + n + ")", desk.put(Long.MAX_VALUE, n), true);
            Due.is("record()", desk.record(), 1);
            int[] least = new int[n];
            int[] greatest = new int[n];
            Arrays.fill(greatest, 255);
            if (n == 8) {
                least[0] = 128;
                greatest[0] = 127;
            }
            Due.bytes("least", desk, 0, least);
            Due.bytes("greatest", desk, 1, greatest);
        }
    }

    private static void refusesMoreThan8000() {
        Desk desk = new Desk(32);
        Due.is("fill(1, 7993)", desk.fill(1, 7993), true);
        Due.is("put(2, 8)", desk.put(2L, 8), false);
        Due.is("in hand", desk.state(4), 7993);
        Due.is("put(2, 7)", desk.put(2L, 7), true);
        Due.is("in hand", desk.state(4), 8000);
        Due.is("put(2, 1)", desk.put(2L, 1), false);
        Due.is("in hand", desk.state(4), 8000);
        Due.is("record()", desk.record(), 1);
        Due.is("first", desk.byteOf(0, 0), 1);
        Due.is("last", desk.byteOf(0, 7999), 2);
        Due.is("put(2, 8)", desk.put(2L, 8), true);
    }

    private static void eachCountUpToTheLastByte() {
        for (int n = 1; n <= 8; n++) {
            Desk fits = new Desk(32);
            Due.is("fill", fits.fill(1, 8000 - n), true);
            Due.is("put to the last byte, " + n, fits.put(0x0202020202020202L, n), true);
            Due.is("in hand", fits.state(4), 8000);
            Due.is("record()", fits.record(), 1);
            Due.is("byte ahead", fits.byteOf(0, 7999 - n), 1);
            Due.is("first byte", fits.byteOf(0, 8000 - n), 2);
            Due.is("last byte", fits.byteOf(0, 7999), 2);

            Desk beyond = new Desk(32);
            Due.is("fill", beyond.fill(1, 8001 - n), true);
            Due.is("put beyond the last byte, " + n, beyond.put(-1L, n), false);
            Due.is("in hand", beyond.state(4), 8001 - n);
            Due.is("record()", beyond.record(), 1);
            Due.allAlike("none of them came", beyond, 0, 8001 - n, 1);
        }
    }

    private static void refusedWhileDown() {
        Desk desk = new Desk(4);
        Due.is("cut()", desk.cut(), true);
        Due.is("put(1, 1) down", desk.put(1L, 1), false);
        Due.is("start()", desk.start(), 1);
        Due.is("in hand", desk.state(4), 0);
    }
}
