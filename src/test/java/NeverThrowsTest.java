import java.util.Random;
import java.util.function.IntConsumer;

/** With any arguments, in any state that its 512 calls can bring about, no call throws. */
public final class NeverThrowsTest {
    private static final int OBJECTS = 8000;
    private static final int CALLS = 512;

    public static void main(String[] args) {
        for (int seed = 0; seed < OBJECTS; seed++) {
            anyCalls(seed);
        }
        int[] blocks = {2, 3, 17, 32};
        for (int n : blocks) {
            fullJournals(n);
            emptyRecords(n);
        }
        Due.end();
    }

    private static void anyCalls(int seed) {
        Random random = new Random(seed);
        Desk desk = new Desk(seed % 40 - 3);
        noneThrows("any calls of seed " + seed, CALLS, call -> anyCall(desk, random));
    }

    private static void anyCall(Desk desk, Random random) {
        int a = any(random);
        int b = any(random);
        switch (random.nextInt(12)) {
            case 0 -> desk.put(random.nextLong(), a);
            case 1 -> desk.put(random.nextLong(), 8);
            case 2 -> desk.fill(a, b);
            case 3, 4 -> desk.record();
            case 5 -> {
                if (random.nextInt(10) == 0) {
                    desk.snapshot();
                }
            }
            case 6 -> desk.size(a);
            case 7 -> desk.byteOf(a, b);
            case 8 -> desk.state(a);
            case 9 -> desk.start();
            case 10 -> desk.charge(a);
            default -> {
                if (random.nextInt(10) == 0) {
                    desk.cut();
                }
            }
        }
    }

    private static int any(Random random) {
        return switch (random.nextInt(4)) {
            case 0 -> random.nextInt();
            case 1 -> random.nextInt(20000) - 5000;
            case 2 -> Integer.MAX_VALUE - random.nextInt(3);
            default -> random.nextInt(20) - 2;
        };
    }

    private static void fullJournals(int blocks) {
        Desk desk = new Desk(blocks);
        noneThrows("full journals of " + blocks, CALLS / 8, round -> {
            desk.fill(round, blocks > 17 ? 8000 : 500 * (blocks - 1));
            desk.record();
            desk.fill(round, 492);
            desk.record();
            desk.record();
            desk.byteOf(1, 491);
            desk.state(3);
            desk.snapshot();
        });
    }

    private static void emptyRecords(int blocks) {
        Desk desk = new Desk(blocks);
        noneThrows("empty records in " + blocks, CALLS / 2, round -> {
            desk.record();
            desk.byteOf(round, 0);
        });
    }

    private static void noneThrows(String what, int rounds, IntConsumer made) {
        int thrownIn = -1;
        for (int round = 0; round < rounds && thrownIn < 0; round++) {
            try {
                made.accept(round);
            } catch (Throwable thrown) {
                System.out.println(thrown);
                thrownIn = round;
            }
        }
        Due.is(what + ": threw in round", thrownIn, -1);
    }
}
