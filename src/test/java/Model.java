import java.io.ByteArrayOutputStream;
import java.util.ArrayList;
import java.util.List;
import java.util.TreeSet;

/**
 * The document read word by word, place by place and block by block, with none of the short cuts
 * of BlockDesk, so that a slip in its arithmetic shows against this.
 */
final class Model implements Store {
    private final int n;
    private byte[] snapshot = new byte[0];
    private final List<byte[]> records = new ArrayList<>();
    private final ByteArrayOutputStream hand = new ByteArrayOutputStream();
    private int begins = 0;
    private int ends = 0;
    private boolean up = true;
    private Integer charge = null;
    private int written = 0;

    Model(int blocks) {
        n = 2 <= blocks && blocks <= 32 ? blocks : 32;
    }

    @Override
    public boolean put(long v, int count) {
        if (!up || count < 1 || count > 8 || hand.size() + count > 8000) {
            return false;
        }
        for (int i = count; i > 0; i--) {
            hand.write((int) (v >>> (8 * (i - 1)) & 0xFFL));
        }
        return true;
    }

    @Override
    public boolean fill(int v, int count) {
        if (!up || count < 1 || count > 8000 || hand.size() + count > 8000) {
            return false;
        }
        for (int i = 0; i < count; i++) {
            hand.write(v & 0xFF);
        }
        return true;
    }

    @Override
    public int record() {
        if (!up) {
            return 0;
        }
        TreeSet<Integer> blocks = new TreeSet<>();
        int place = ends;
        for (int i = 0; i < 4 + hand.size(); i++) {
            blocks.add(place / 500);
            place++;
        }
        if (blocks.last() - begins / 500 >= n) {
            return 0;
        }
        for (int i = 0; i < blocks.size(); i++) {
            if (!writeOne()) {
                return 2;
            }
        }
        records.add(hand.toByteArray());
        hand.reset();
        ends = place;
        return 1;
    }

    @Override
    public int snapshot() {
        if (!up) {
            return 0;
        }
        for (int left = hand.size(); left > 0; left -= 500) {
            if (!writeOne()) {
                return 2;
            }
        }
        if (!writeOne()) {
            return 2;
        }
        snapshot = hand.toByteArray();
        hand.reset();
        if (!records.isEmpty()) {
            begins = ((ends - 1) / 500 + 1) * 500;
            ends = begins;
        }
        records.clear();
        return 1;
    }

    @Override
    public boolean cut() {
        if (!up) {
            return false;
        }
        powerGoes();
        return true;
    }

    @Override
    public int start() {
        if (up) {
            return 0;
        }
        if (!writeOne()) {
            return 2;
        }
        up = true;
        return 1;
    }

    @Override
    public boolean charge(int count) {
        if (count < 0 || count > 999) {
            return false;
        }
        charge = count;
        return true;
    }

    @Override
    public int size(int k) {
        byte[] found = find(k);
        return found == null ? -1 : found.length;
    }

    @Override
    public int byteOf(int k, int i) {
        byte[] found = find(k);
        return found == null || i < 0 || i >= found.length ? -1 : found[i] & 0xFF;
    }

    @Override
    public int state(int what) {
        int[] told = {up ? 1 : 0, records.size(), begins, ends, hand.size(), written};
        if (what < 0 || what > 5 || !up && what != 0 && what != 5) {
            return -1;
        }
        return told[what];
    }

    private byte[] find(int k) {
        if (!up || k < -1 || k >= records.size()) {
            return null;
        }
        return k == -1 ? snapshot : records.get(k);
    }

    private boolean writeOne() {
        if (charge != null && charge == 0) {
            powerGoes();
            return false;
        }
        if (charge != null) {
            charge--;
        }
        written++;
        return true;
    }

    private void powerGoes() {
        up = false;
        hand.reset();
        charge = null;
    }
}
