import java.util.Random;

/** All promises together: long mixed runs answer as the plain reading of the document does. */
public final class ModelTest {
    private static final int RUNS = 2000;
    private static final int[] LENGTHS = {60, 200, 400, 512};
    private static final int[] ODD = {Integer.MIN_VALUE, -2, -1, 0, 1, 2, 8, 9, 499, 500, 501, 999,
            1000, 7999, 8000, 8001, Integer.MAX_VALUE};

    public static void main(String[] args) {
        for (int run = 0; run < RUNS; run++) {
            oneRun(run);
        }
        Due.end();
    }

    private static void oneRun(int run) {
        Random random = new Random(run);
        int blocks = random.nextInt(36) - 1;
        // Some runs fill the journal with small records, others tear large ones.
        int most = new int[] {10, 600, 3000, 8000}[random.nextInt(4)];
        int calls = LENGTHS[random.nextInt(LENGTHS.length)];
        Desk desk = new Desk(blocks);
        Model model = new Model(blocks);
        for (int call = 0; call < calls; call++) {
            oneCall("run " + run + ", call " + call + ": ", desk, model, random, most);
        }
        if (calls < 512) {
            compareAll("run " + run + ", at its end", desk, model);
        }
    }

    private static void oneCall(String at, Store desk, Store model, Random random, int most) {
        int kind = random.nextInt(100);
        if (kind < 12) {
            long v = random.nextLong();
            int n = random.nextInt(20) == 0 ? odd(random) : 1 + random.nextInt(8);
            Due.is(at + "put " + n, desk.put(v, n), model.put(v, n));
        } else if (kind < 30) {
            int v = random.nextInt();
            int n = random.nextInt(20) == 0 ? odd(random) : 1 + random.nextInt(most);
            Due.is(at + "fill " + n, desk.fill(v, n), model.fill(v, n));
        } else if (kind < 52) {
            Due.is(at + "record", desk.record(), model.record());
        } else if (kind < 58) {
            Due.is(at + "snapshot", desk.snapshot(), model.snapshot());
        } else if (kind < 60) {
            Due.is(at + "cut", desk.cut(), model.cut());
        } else if (kind < 70) {
            Due.is(at + "start", desk.start(), model.start());
        } else if (kind < 75) {
            int n = random.nextInt(10) == 0 ? odd(random) : random.nextInt(12);
            Due.is(at + "charge " + n, desk.charge(n), model.charge(n));
        } else {
            askOne(at, desk, model, random, kind);
        }
    }

    private static void askOne(String at, Asked desk, Asked model, Random random, int kind) {
        if (kind < 80) {
            int k = near(random, model.state(1));
            Due.is(at + "size " + k, desk.size(k), model.size(k));
        } else if (kind < 90) {
            int k = near(random, model.state(1));
            int i = near(random, model.size(k));
            Due.is(at + "byteOf " + k + " " + i, desk.byteOf(k, i), model.byteOf(k, i));
        } else {
            int what = random.nextInt(20) == 0 ? odd(random) : random.nextInt(6);
            Due.is(at + "state " + what, desk.state(what), model.state(what));
        }
    }

    private static void compareAll(String at, Desk desk, Model model) {
        // The second start brings up a store whose first one the charge cut off.
        Due.is(at + ": start", desk.start(), model.start());
        Due.is(at + ": start", desk.start(), model.start());
        Due.same(at, new Reader(desk), model);
    }

    private static int odd(Random random) {
        return ODD[random.nextInt(ODD.length)];
    }

    private static int near(Random random, int count) {
        return random.nextInt(20) == 0 ? odd(random) : random.nextInt(Math.max(count, 0) + 3) - 1;
    }
}
