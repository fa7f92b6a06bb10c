/** Promises 1 (a new object), 2 (put), 3 (empty), 6 (size) and 7 (get). */
public final class RowsTest {
    private static final int[] LIMITS = {160, 200, 64};
    private static final int[] NO_ROWS = {-1, 3, 4, Integer.MIN_VALUE, Integer.MAX_VALUE};

    public static void main(String[] args) {
        newObjectIsEmpty();
        putWritesLowestFirst();
        putGoesBehind();
        putKeepsRowsApart();
        putRefusesWrongArguments();
        putFillsToTheLimit();
        emptyTellsWhatWasThere();
        getRefusesWhatIsNotThere();
        objectsAreApart();
        Check.finish();
    }

    private static void newObjectIsEmpty() {
        PressSuite x = new PressSuite();
        for (int row = 0; row < 3; row++) {
            int r = row;
            Check.same("size of new row " + r, x.size(r), 0);
            Check.refusesState("get of new row " + r, () -> x.get(r, 0));
            Check.same("crc of new row " + r, x.crc(r), 0);
            Check.same("hash of new row " + r, x.hash(r, 0), 46947589);
            Check.same("empty of new row " + r, x.empty(r), 0);
        }
        Check.same("found(0) of new", x.found(0), 0);
        Check.same("found(1) of new", x.found(1), 0);
    }

    private static void putWritesLowestFirst() {
        for (int row = 0; row < 3; row++) {
            for (int n = 1; n <= 8; n++) {
                PressSuite x = new PressSuite();
                x.put(row, 0x80F1E2D3C4B5A697L, n);
                int[] all = {0x97, 0xA6, 0xB5, 0xC4, 0xD3, 0xE2, 0xF1, 0x80};
                Check.holds("put of " + n, x, row, java.util.Arrays.copyOf(all, n));
            }
        }
        PressSuite x = new PressSuite();
        x.put(0, -1L, 8);
        Check.holds("put of -1", x, 0, Check.repeat(255, 8));
        x.put(0, 256L, 1);
        Check.same("put of 256 in one byte", x.get(0, 8), 0);
    }

    private static void putGoesBehind() {
        PressSuite x = new PressSuite();
        x.put(2, 0x0201L, 2);
        x.put(2, 0x03L, 1);
        x.put(2, 0x07060504L, 4);
        Check.holds("puts one behind another", x, 2, 1, 2, 3, 4, 5, 6, 7);
    }

    private static void putKeepsRowsApart() {
        PressSuite x = new PressSuite();
        x.put(0, 1, 1);
        x.put(1, 0x0302, 2);
        x.put(2, 0x060504, 3);
        Check.holds("rows apart", x, 0, 1);
        Check.holds("rows apart", x, 1, 2, 3);
        Check.holds("rows apart", x, 2, 4, 5, 6);
    }

    private static void putRefusesWrongArguments() {
        PressSuite x = new PressSuite();
        for (int row : NO_ROWS) {
            Check.refusesArgument("put to row " + row, () -> x.put(row, 1, 1));
            Check.refusesArgument("empty of row " + row, () -> x.empty(row));
            Check.refusesArgument("size of row " + row, () -> x.size(row));
            Check.refusesArgument("get of row " + row, () -> x.get(row, 0));
            Check.refusesArgument("get -1 of row " + row, () -> x.get(row, -1));
            Check.refusesArgument("crc of row " + row, () -> x.crc(row));
            Check.refusesArgument("hash of row " + row, () -> x.hash(row, 0));
        }
        for (int n : new int[] {0, 9, -1, Integer.MIN_VALUE, Integer.MAX_VALUE}) {
            for (int row = 0; row < 3; row++) {
                int r = row;
                Check.refusesArgument("put of " + n, () -> x.put(r, 1, n));
                Check.same("size after a refused put", x.size(r), 0);
            }
        }
        Check.fill(x, 2, Check.repeat(7, 64));
        Check.refusesArgument("a wrong n goes before a full row", () -> x.put(2, 1, 9));
        Check.refusesArgument("n 0 goes before a full row", () -> x.put(2, 1, 0));
    }

    private static void putFillsToTheLimit() {
        for (int row = 0; row < 3; row++) {
            PressSuite x = new PressSuite();
            int r = row;
            int limit = LIMITS[row];
            Check.fill(x, r, Check.rising(0, limit - 3));
            for (int n = 4; n <= 8; n++) {
                int tooMany = n;
                Check.refusesState("put of " + n + " with room for 3", () -> x.put(r, -1, tooMany));
            }
            Check.holds("nothing of a refused put", x, r, Check.rising(0, limit - 3));
            x.put(r, 0x030201, 3);
            Check.same("a full row", x.size(r), limit);
            Check.same("its last byte", x.get(r, limit - 1), 3);
            Check.refusesState("put to a full row", () -> x.put(r, 1, 1));
            Check.same("a full row still", x.size(r), limit);
        }
    }

    private static void emptyTellsWhatWasThere() {
        for (int row = 0; row < 3; row++) {
            PressSuite x = new PressSuite();
            int r = row;
            for (int other = 0; other < 3; other++) {
                Check.fill(x, other, Check.rising(other, 20 + other));
            }
            Check.same("empty", x.empty(r), 20 + r);
            for (int other = 0; other < 3; other++) {
                Check.same("size after empty", x.size(other), other == r ? 0 : 20 + other);
            }
            Check.same("empty again", x.empty(r), 0);
            Check.refusesState("get of an emptied row", () -> x.get(r, 0));
            x.put(r, 99, 1);
            Check.holds("put after empty", x, r, 99);
        }
        PressSuite full = new PressSuite();
        Check.fill(full, 1, Check.repeat(1, 200));
        Check.same("empty of a full row", full.empty(1), 200);
        Check.fill(full, 1, Check.rising(5, 200));
        Check.holds("filled again", full, 1, Check.rising(5, 200));
    }

    private static void getRefusesWhatIsNotThere() {
        PressSuite x = new PressSuite();
        for (int row = 0; row < 3; row++) {
            int r = row;
            x.put(r, 0xFF80, 2);
            Check.same("get is never below 0", x.get(r, 0), 128);
            Check.same("get up to 255", x.get(r, 1), 255);
            for (int k : new int[] {2, 3, -1, 160, 200, Integer.MIN_VALUE, Integer.MAX_VALUE}) {
                Check.refusesState("get of byte " + k, () -> x.get(r, k));
            }
        }
    }

    private static void objectsAreApart() {
        PressSuite x = new PressSuite();
        PressSuite y = new PressSuite();
        x.put(0, 5, 1);
        Check.same("another object's row", y.size(0), 0);
        y.put(0, 6, 1);
        Check.same("the first object's byte", x.get(0, 0), 5);
    }
}
