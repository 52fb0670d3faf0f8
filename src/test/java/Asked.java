/** The calls that tell of a store and change nothing. */
interface Asked {
    int size(int k);

    int byteOf(int k, int i);

    int state(int what);
}
