import java.util.ArrayList;
import java.util.List;
import java.util.function.ToIntFunction;

/**
 * A BlockDesk of which a test asks no more than the document promises: 512 calls. It keeps the
 * calls that may have changed it, so that the same object can be made again.
 */
final class Desk implements Store {
    private static final int MOST_CALLS = 512;

    private final int blocks;
    private final BlockDesk inner;
    private final List<ToIntFunction<BlockDesk>> changes = new ArrayList<>();
    private int calls = 0;

    Desk(int blocks) {
        this.blocks = blocks;
        inner = new BlockDesk(blocks);
    }

    @Override
    public boolean put(long v, int n) {
        return change(desk -> desk.put(v, n) ? 1 : 0) == 1;
    }

    @Override
    public boolean fill(int v, int n) {
        return change(desk -> desk.fill(v, n) ? 1 : 0) == 1;
    }

    @Override
    public int record() {
        return change(BlockDesk::record);
    }

    @Override
    public int snapshot() {
        return change(BlockDesk::snapshot);
    }

    @Override
    public boolean cut() {
        return change(desk -> desk.cut() ? 1 : 0) == 1;
    }

    @Override
    public int start() {
        return change(BlockDesk::start);
    }

    @Override
    public boolean charge(int n) {
        return change(desk -> desk.charge(n) ? 1 : 0) == 1;
    }

    @Override
    public int size(int k) {
        countCall();
        return inner.size(k);
    }

    @Override
    public int byteOf(int k, int i) {
        countCall();
        return inner.byteOf(k, i);
    }

    @Override
    public int state(int what) {
        countCall();
        return inner.state(what);
    }

    /** A new object after the same calls, but for those that only ask. */
    Desk twin() {
        Desk twin = new Desk(blocks);
        for (ToIntFunction<BlockDesk> call : changes) {
            twin.change(call);
        }
        return twin;
    }

    int callsLeft() {
        return MOST_CALLS - calls;
    }

    private int change(ToIntFunction<BlockDesk> call) {
        countCall();
        changes.add(call);
        return call.applyAsInt(inner);
    }

    private void countCall() {
        calls++;
        if (calls > MOST_CALLS) {
            throw new IllegalStateException("the test asks more than 512 calls of one object");
        }
    }
}
