import java.util.Random;

/** Far beyond 512 calls, where answers are free, and with any arguments, no call throws. */
public final class NeverThrowsTest {
    private static final int CALLS = 1_000_000;

    public static void main(String[] args) {
        for (int seed = 0; seed < 4; seed++) {
            BlockDesk desk = new BlockDesk(seed * 11 - 1);
            Due.is("seed " + seed + " threw at call", firstThrowingCall(desk, seed), -1);
        }
        Due.is("the journal's places wrapped, threw at call", wrapThePlaces(), -1);
        Due.is("a journal of empty records, threw at call", emptyRecords(), -1);
        Due.end();
    }

    private static int firstThrowingCall(BlockDesk desk, int seed) {
        Random random = new Random(seed);
        for (int call = 0; call < CALLS; call++) {
            try {
                anyCall(desk, random);
            } catch (Throwable thrown) {
                System.out.println(thrown);
                return call;
            }
        }
        return -1;
    }

    private static void anyCall(BlockDesk desk, Random random) {
        int a = any(random);
        int b = any(random);
        switch (random.nextInt(10)) {
            case 0 -> desk.put(random.nextLong(), a);
            case 1 -> desk.fill(a, b);
            case 2 -> desk.record();
            case 3 -> {
                if (random.nextInt(50) == 0) {
                    desk.snapshot();
                }
            }
            case 4 -> desk.size(a);
            case 5 -> desk.byteOf(a, b);
            case 6 -> desk.state(a);
            case 7 -> desk.start();
            case 8 -> desk.charge(a);
            default -> {
                if (random.nextInt(50) == 0) {
                    desk.cut();
                }
            }
        }
    }

    private static int any(Random random) {
        return switch (random.nextInt(4)) {
            case 0 -> random.nextInt();
            case 1 -> random.nextInt(20000) - 5000;
            case 2 -> Integer.MAX_VALUE - random.nextInt(3);
            default -> random.nextInt(20) - 2;
        };
    }

    private static int wrapThePlaces() {
        BlockDesk desk = new BlockDesk(32);
        for (int round = 0; round < 300_000; round++) {
            try {
                desk.fill(round, 8000);
                desk.record();
                desk.fill(round, 7990);
                desk.record();
                desk.byteOf(1, 7989);
                desk.state(3);
                desk.snapshot();
            } catch (Throwable thrown) {
                System.out.println(thrown);
                return round;
            }
        }
        return -1;
    }

    private static int emptyRecords() {
        BlockDesk desk = new BlockDesk(32);
        for (int round = 0; round < 5000; round++) {
            try {
                desk.record();
                desk.size(round);
                desk.byteOf(round, 0);
            } catch (Throwable thrown) {
                System.out.println(thrown);
                return round;
            }
        }
        return -1;
    }
}
