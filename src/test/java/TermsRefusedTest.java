import java.util.ArrayList;
import java.util.List;
import java.util.function.Consumer;
import java.util.function.ToIntFunction;

/**
 * Terms: "A call that is refused changes nothing." Of two objects alike one is asked a call that
 * is refused. Then both must tell the same, and go on the same, whatever is called next: that
 * shows also the bytes in hand and the charge, of which no call tells.
 */
public final class TermsRefusedTest {
    private static final int LEAST = Integer.MIN_VALUE;
    private static final int GREATEST = Integer.MAX_VALUE;

    private record Call(String text, ToIntFunction<Store> made, int due) {
    }

    private record Begin(String text, int blocks, int hand, Consumer<Store> made) {
    }

    /** Each answers by the digits of its calls' answers. */
    private static final List<ToIntFunction<Store>> GOING_ON = List.of(
            store -> 0,
            store -> store.record(),
            store -> store.snapshot(),
            store -> digits(store.fill(201, 2) ? 1 : 0, store.record(), store.snapshot(),
                    store.record()),
            store -> digits(store.start(), store.start(), store.put(0xCACBCCL, 3) ? 1 : 0,
                    store.record(), store.record(), store.snapshot()),
            store -> digits(store.cut() ? 1 : 0, store.start(), store.fill(202, 1100) ? 1 : 0,
                    store.record(), store.record(), store.record()));

    public static void main(String[] args) {
        for (Begin begin : ups()) {
            for (Call call : refusedWhileUp(begin.hand())) {
                changesNothing(begin, call);
            }
        }
        for (Begin begin : fulls()) {
            changesNothing(begin, new Call("record() full", Store::record, 0));
        }
        for (Begin begin : downs()) {
            for (Call call : refusedWhileDown()) {
                changesNothing(begin, call);
            }
        }
        Due.end();
    }

    private static void changesNothing(Begin begin, Call call) {
        for (ToIntFunction<Store> goOn : GOING_ON) {
            String when = begin.text() + ", " + call.text();
            Desk asked = new Desk(begin.blocks());
            Desk other = new Desk(begin.blocks());
            begin.made().accept(asked);
            begin.made().accept(other);
            Due.is(when, call.made().applyAsInt(asked), call.due());
            Due.is(when + ": going on", goOn.applyAsInt(asked), goOn.applyAsInt(other));
            // The object itself, for a reader makes it again without the calls that only ask.
            Due.sameSizes(when, asked, other);
            Due.same(when, new Reader(asked), new Reader(other));
        }
    }

    private static int digits(int... answers) {
        int all = 0;
        for (int answer : answers) {
            all = 10 * all + answer;
        }
        return all;
    }

    private static List<Begin> ups() {
        List<Begin> begins = new ArrayList<>();
        int[] hands = {0, 1, 5, 7992, 7993, 7999, 8000};
        for (int hand : hands) {
            begins.add(new Begin("new, in hand " + hand, 32, hand, store -> inHand(store, hand)));
            begins.add(new Begin("worked, in hand " + hand, 4, hand, store -> {
                work(store);
                inHand(store, hand);
            }));
        }
        for (int charge = 0; charge <= 3; charge++) {
            int n = charge;
            begins.add(new Begin("charge " + n + ", in hand 600", 4, 600, store -> {
                work(store);
                inHand(store, 600);
                store.charge(n);
            }));
        }
        return begins;
    }

    private static List<Begin> fulls() {
        List<Begin> begins = new ArrayList<>();
        int[] hands = {997, 998, 7999, 8000};
        for (int hand : hands) {
            begins.add(new Begin("none done, in hand " + hand, 2, hand, store -> {
                inHand(store, hand);
            }));
            begins.add(new Begin("charge 0, in hand " + hand, 2, hand, store -> {
                work(store);
                inHand(store, hand);
                store.charge(0);
            }));
        }
        for (int left = 0; left <= 3; left++) {
            int size = 996 - left;
            begins.add(new Begin("places left " + left, 2, 0, store -> {
                work(store);
                store.snapshot();
                inHand(store, size);
                store.record();
                store.charge(1);
            }));
        }
        return begins;
    }

    private static List<Begin> downs() {
        List<Begin> begins = new ArrayList<>();
        for (int charge = -1; charge <= 3; charge++) {
            int n = charge;
            String behind = ", then charge " + n;
            begins.add(down("new, cut" + behind, n, store -> store.cut()));
            begins.add(down("cut" + behind, n, store -> {
                work(store);
                inHand(store, 9);
                store.cut();
            }));
            begins.add(down("record cut off" + behind, n, store -> {
                work(store);
                inHand(store, 900);
                store.charge(1);
                store.record();
            }));
            begins.add(down("snapshot cut off" + behind, n, store -> {
                work(store);
                inHand(store, 900);
                store.charge(2);
                store.snapshot();
            }));
            begins.add(down("start cut off" + behind, n, store -> {
                work(store);
                store.cut();
                store.charge(0);
                store.start();
            }));
        }
        return begins;
    }

    private static Begin down(String text, int charge, Consumer<Store> made) {
        return new Begin(text, 4, 0, store -> {
            made.accept(store);
            Due.is(text + ": down", store.state(0), 0);
            if (charge >= 0) {
                store.charge(charge);
            }
        });
    }

    /** A snapshot, a journal that has moved on, and two records in it, the second of no bytes. */
    private static void work(Store store) {
        store.put(0x0102030405060708L, 8);
        store.record();
        store.put(0x1112131415161718L, 8);
        store.fill(19, 500);
        store.snapshot();
        store.put(0x2122L, 2);
        store.record();
        store.record();
    }

    /** Bytes of two values, so that it shows if one is lost at either end. */
    private static void inHand(Store store, int size) {
        if (size > 0) {
            store.fill(31, 1);
        }
        if (size > 1) {
            store.fill(32, size - 1);
        }
    }

    private static List<Call> refusedWhileUp(int hand) {
        List<Call> calls = new ArrayList<>();
        addWrongInAnyState(calls);
        addPutsAndFillsBeyond(calls, hand);
        calls.add(new Call("start() up", Store::start, 0));
        int[] none = {LEAST, -3, -2, 2, 3, 500, GREATEST};
        for (int k : none) {
            calls.add(new Call("size(" + k + ")", store -> store.size(k), -1));
            calls.add(new Call("byteOf(" + k + ", 0)", store -> store.byteOf(k, 0), -1));
        }
        int[] beyond = {LEAST, -1, 8000, GREATEST};
        for (int i : beyond) {
            for (int k = -1; k <= 1; k++) {
                int of = k;
                calls.add(new Call("byteOf(" + k + ", " + i + ")",
                        store -> store.byteOf(of, i), -1));
            }
        }
        return calls;
    }

    private static void addWrongInAnyState(List<Call> calls) {
        int[] puts = {LEAST, -8, -1, 0, 9, 10, GREATEST};
        long[] values = {Long.MIN_VALUE, -1L, 0L, Long.MAX_VALUE};
        for (int n : puts) {
            for (long v : values) {
                calls.add(new Call("put(" + v + ", " + n + ")",
                        store -> store.put(v, n) ? 1 : 0, 0));
            }
        }
        int[] fills = {LEAST, -8000, -1, 0, 8001, 16000, GREATEST};
        int[] fillers = {LEAST, 0, GREATEST};
        for (int n : fills) {
            for (int v : fillers) {
                calls.add(new Call("fill(" + v + ", " + n + ")",
                        store -> store.fill(v, n) ? 1 : 0, 0));
            }
        }
        int[] charges = {LEAST, -1000, -1, 1000, 1001, GREATEST};
        for (int n : charges) {
            calls.add(new Call("charge(" + n + ")", store -> store.charge(n) ? 1 : 0, 0));
        }
        int[] others = {LEAST, -2, -1, 6, 7, GREATEST};
        for (int what : others) {
            calls.add(new Call("state(" + what + ")", store -> store.state(what), -1));
        }
    }

    private static void addPutsAndFillsBeyond(List<Call> calls, int hand) {
        int fits = 8000 - hand;
        for (int n = fits + 1; n <= 8; n++) {
            int count = n;
            calls.add(new Call("put beyond, " + n, store -> store.put(-1L, count) ? 1 : 0, 0));
        }
        int[] fills = {fits + 1, fits + 2, 8000};
        for (int n : fills) {
            if (hand + n > 8000) {
                calls.add(new Call("fill beyond, " + n, store -> store.fill(-1, n) ? 1 : 0, 0));
            }
        }
    }

    private static List<Call> refusedWhileDown() {
        List<Call> calls = new ArrayList<>();
        addWrongInAnyState(calls);
        calls.add(new Call("put(1, 1) down", store -> store.put(1L, 1) ? 1 : 0, 0));
        calls.add(new Call("put(1, 8) down", store -> store.put(1L, 8) ? 1 : 0, 0));
        calls.add(new Call("fill(1, 1) down", store -> store.fill(1, 1) ? 1 : 0, 0));
        calls.add(new Call("fill(1, 8000) down", store -> store.fill(1, 8000) ? 1 : 0, 0));
        calls.add(new Call("record() down", Store::record, 0));
        calls.add(new Call("snapshot() down", Store::snapshot, 0));
        calls.add(new Call("cut() down", store -> store.cut() ? 1 : 0, 0));
        for (int k = -2; k <= 2; k++) {
            int of = k;
            calls.add(new Call("size(" + k + ") down", store -> store.size(of), -1));
            calls.add(new Call("byteOf(" + k + ", 0) down", store -> store.byteOf(of, 0), -1));
        }
        for (int what = 1; what <= 4; what++) {
            int asked = what;
            calls.add(new Call("state(" + what + ") down", store -> store.state(asked), -1));
        }
        return calls;
    }
}
