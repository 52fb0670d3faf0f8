import java.util.List;
import java.util.function.ToIntFunction;

/** Every run of a few calls out of these, each against the model: no order of them is left out. */
public final class ShortRunsTest {
    private static final int LENGTH = 5;

    private static final List<ToIntFunction<Store>> CALLS = List.of(
            store -> store.put(0x8182L, 2) ? 1 : 0,
            store -> store.fill(7, 496) ? 1 : 0,
            store -> store.fill(8, 505) ? 1 : 0,
            store -> store.put(1L, 9) ? 1 : 0,
            Store::record,
            Store::snapshot,
            store -> store.cut() ? 1 : 0,
            Store::start,
            store -> store.charge(0) ? 1 : 0,
            store -> store.charge(1) ? 1 : 0,
            store -> store.charge(2) ? 1 : 0,
            store -> store.charge(1000) ? 1 : 0);

    public static void main(String[] args) {
        int runs = 1;
        for (int i = 0; i < LENGTH; i++) {
            runs *= CALLS.size();
        }
        for (int run = 0; run < runs; run++) {
            oneRun(run);
        }
        Due.end();
    }

    /** The digits of the run's number, to the base of how many calls there are, are its calls. */
    private static void oneRun(int run) {
        Desk desk = new Desk(2);
        Model model = new Model(2);
        int digits = run;
        for (int i = 0; i < LENGTH; i++) {
            ToIntFunction<Store> call = CALLS.get(digits % CALLS.size());
            digits /= CALLS.size();
            int got = call.applyAsInt(desk);
            int due = call.applyAsInt(model);
            if (got != due) {
                Due.is("run " + run + ", call " + i, got, due);
            }
        }
        Due.same("run " + run, new Reader(desk), model);
        // Down it tells little; what it holds shows when it is up.
        desk.start();
        model.start();
        Due.same("run " + run + ", up", new Reader(desk), model);
    }
}
