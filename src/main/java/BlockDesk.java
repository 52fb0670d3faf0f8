import java.util.Arrays;

/**
 * A store of one snapshot and a journal of records on blocks that are each written whole or not
 * at all. Only what is done is held here: a write that the power cuts off leaves no trace but in
 * the count of the blocks written, so there is nothing to clear away when the store starts again.
 */
public final class BlockDesk {
    private static final int PLACES_IN_BLOCK = 500;
    private static final int HEAD_PLACES = 4;
    private static final int MOST_BYTES = 8000;
    private static final int LEAST_BLOCKS = 2;
    private static final int MOST_BLOCKS = 32;
    private static final int MOST_CHARGE = 999;

    private static final int NO_CHARGE = -1;
    private static final int SNAPSHOT = -1;
    private static final int NONE = -1;

    private static final int REFUSED = 0;
    private static final int DONE = 1;
    private static final int POWER_WENT = 2;

    private final byte[] journal;
    /**
     * Where each record starts, counted from where the journal begins; behind the last record
     * stands where the journal ends. Counted so, these stay indexes of the journal's row however
     * far the journal has moved on.
     */
    private final int[] starts;
    private int records;
    private int begin;

    private byte[] snapshotBytes;
    private int snapshotSize;
    private byte[] handBytes;
    private int handSize;

    private boolean up;
    private int charge;
    private int written;

    public BlockDesk(int blocks) {
        boolean allowed = blocks >= LEAST_BLOCKS && blocks <= MOST_BLOCKS;
        int places = (allowed ? blocks : MOST_BLOCKS) * PLACES_IN_BLOCK;
        journal = new byte[places];
        // The smallest record is a head alone, and one start more stands behind the last record.
        starts = new int[places / HEAD_PLACES + 1];
        snapshotBytes = new byte[MOST_BYTES];
        handBytes = new byte[MOST_BYTES];
        up = true;
        charge = NO_CHARGE;
    }

    public boolean put(long v, int n) {
        if (n < 1 || n > 8 || !handTakes(n)) {
            return false;
        }
        for (int left = n - 1; left >= 0; left--) {
            handBytes[handSize] = (byte) (v >> (8 * left));
            handSize++;
        }
        return true;
    }

    public boolean fill(int v, int n) {
        if (n < 1 || n > MOST_BYTES || !handTakes(n)) {
            return false;
        }
        Arrays.fill(handBytes, handSize, handSize + n, (byte) v);
        handSize += n;
        return true;
    }

    public int record() {
        if (!up) {
            return REFUSED;
        }
        int start = usedPlaces();
        int end = start + HEAD_PLACES + handSize;
        if (end > journal.length) {
            return REFUSED;
        }
        int firstBlock = start / PLACES_IN_BLOCK;
        int lastBlock = (end - 1) / PLACES_IN_BLOCK;
        if (!writeBlocks(lastBlock - firstBlock + 1)) {
            return POWER_WENT;
        }
        System.arraycopy(handBytes, 0, journal, start + HEAD_PLACES, handSize);
        records++;
        starts[records] = end;
        handSize = 0;
        return DONE;
    }

    public int snapshot() {
        if (!up) {
            return REFUSED;
        }
        if (!writeBlocks(blocksFor(handSize) + 1)) {
            return POWER_WENT;
        }
        takeHandAsSnapshot();
        beginJournalAnew();
        return DONE;
    }

    public boolean cut() {
        if (!up) {
            return false;
        }
        losePower();
        return true;
    }

    public int start() {
        if (up) {
            return REFUSED;
        }
        if (!writeBlocks(1)) {
            return POWER_WENT;
        }
        up = true;
        return DONE;
    }

    public boolean charge(int n) {
        if (n < 0 || n > MOST_CHARGE) {
            return false;
        }
        charge = n;
        return true;
    }

    public int size(int k) {
        if (!up || k < SNAPSHOT || k >= records) {
            return NONE;
        }
        if (k == SNAPSHOT) {
            return snapshotSize;
        }
        return starts[k + 1] - starts[k] - HEAD_PLACES;
    }

    public int byteOf(int k, int i) {
        // Where there is no such k, size answers -1, and no i is below that.
        if (i < 0 || i >= size(k)) {
            return NONE;
        }
        byte found = k == SNAPSHOT ? snapshotBytes[i] : journal[starts[k] + HEAD_PLACES + i];
        return found & 0xFF;
    }

    public int state(int what) {
        if (what == 0) {
            return up ? 1 : 0;
        }
        if (what == 5) {
            return written;
        }
        if (!up) {
            return NONE;
        }
        switch (what) {
            case 1:
                return records;
            case 2:
                return begin;
            case 3:
                return begin + usedPlaces();
            case 4:
                return handSize;
            default:
                return NONE;
        }
    }

    private boolean handTakes(int n) {
        return up && n <= MOST_BYTES - handSize;
    }

    private int usedPlaces() {
        return starts[records];
    }

    private static int blocksFor(int places) {
        return (places + PLACES_IN_BLOCK - 1) / PLACES_IN_BLOCK;
    }

    /** False if the power went before one of them; those ahead of it count as written. */
    private boolean writeBlocks(int count) {
        if (charge == NO_CHARGE) {
            written += count;
            return true;
        }
        if (count <= charge) {
            charge -= count;
            written += count;
            return true;
        }
        written += charge;
        losePower();
        return false;
    }

    private void losePower() {
        up = false;
        handSize = 0;
        charge = NO_CHARGE;
    }

    /** The two rows change places, so that no call makes a new one. */
    private void takeHandAsSnapshot() {
        byte[] free = snapshotBytes;
        snapshotBytes = handBytes;
        snapshotSize = handSize;
        handBytes = free;
        handSize = 0;
    }

    /** With no record the journal has no last place, no block is used, and it stays where it is. */
    private void beginJournalAnew() {
        begin += blocksFor(usedPlaces()) * PLACES_IN_BLOCK;
        records = 0;
    }
}
