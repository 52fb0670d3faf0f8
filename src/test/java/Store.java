/** The document's calls, so that a run can be made alike on a desk and on the model. */
interface Store extends Asked {
    boolean put(long v, int n);

    boolean fill(int v, int n);

    int record();

    int snapshot();

    boolean cut();

    int start();

    boolean charge(int n);
}
