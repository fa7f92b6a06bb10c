/** A PressSuite whose calls are counted: of an object after its 512th call nothing is promised, so no test may ask. */
final class Counted {
    static final int MOST_CALLS = 512;

    private final PressSuite x = new PressSuite();
    private int calls = 0;

    private PressSuite next() {
        calls++;
        if (calls > MOST_CALLS) {
            throw new AssertionError("the test makes more than 512 calls on one object");
        }
        return x;
    }

    int calls() {
        return calls;
    }

    void put(int row, long v, int n) {
        next().put(row, v, n);
    }

    int empty(int row) {
        return next().empty(row);
    }

    int pack(int format) {
        return next().pack(format);
    }

    int unpack(int format) {
        return next().unpack(format);
    }

    int size(int row) {
        return next().size(row);
    }

    int get(int row, int k) {
        return next().get(row, k);
    }

    int found(int what) {
        return next().found(what);
    }

    int crc(int row) {
        return next().crc(row);
    }

    int hash(int row, int seed) {
        return next().hash(row, seed);
    }
}
