/** A new object of the class, used for 512 calls at most: of later ones the document promises nothing. */
final class Subject {
    static final int MOST_CALLS = 512;

    private final ResidueTransforms object = new ResidueTransforms();
    private int calls = 0;

    boolean put(int k, long v) {
        return counted().put(k, v);
    }

    long get(int k) {
        return counted().get(k);
    }

    int transform(int n, int p, boolean back) {
        return counted().transform(n, p, back);
    }

    boolean keep(int n) {
        return counted().keep(n);
    }

    int times(int n, int p) {
        return counted().times(n, p);
    }

    long root(int n, int p) {
        return counted().root(n, p);
    }

    int calls() {
        return calls;
    }

    private ResidueTransforms counted() {
        if (calls == MOST_CALLS) {
            throw new IllegalStateException("the test itself is wrong: it makes more than " + MOST_CALLS + " calls");
        }
        calls++;
        return object;
    }
}
