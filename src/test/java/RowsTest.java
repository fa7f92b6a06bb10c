/** Promises 1 (a new object), 2 (put), 3 (empty), 6 (size) and 7 (get), and what 'Terms' says of the rows. */
public final class RowsTest {
    public static void main(String[] args) {
        Check.run(
            RowsTest::lastCall,
            () -> rowLimit(0, "PLAIN, at most 160"),
            () -> rowLimit(1, "PACKED, at most 200"),
            () -> rowLimit(2, "the PAST, at most 64"),
            RowsTest::lowestFirst,
            RowsTest::placesCountFrom0,
            RowsTest::newObject,
            RowsTest::putLowestBytes,
            RowsTest::putBehind,
            RowsTest::putNoSuchRow,
            RowsTest::putWrongCount,
            RowsTest::putNoRoom,
            RowsTest::putTwoFaults,
            RowsTest::emptyTellsHowMany,
            RowsTest::emptyNoSuchRow,
            RowsTest::sizeTellsHowMany,
            RowsTest::sizeNoSuchRow,
            RowsTest::getIs0To255,
            RowsTest::getNoSuchRow,
            RowsTest::getNoSuchByte);
        Check.finish();
    }

    /** Every row begun: plain 1 2, packed 3 4 5, the past 6. */
    private static Counted begun() {
        Counted x = new Counted();
        x.put(Check.PLAIN, 0x0201, 2);
        x.put(Check.PACKED, 0x050403, 3);
        x.put(Check.PAST, 0x06, 1);
        return x;
    }

    private static void lastCall() {
        Check.sentence("What it is: An object is used for at most 512 calls after it has been made");
        Counted x = new Counted();
        x.put(Check.PAST, 5, 1);
        while (x.calls() < Counted.MOST_CALLS - 1) {
            x.pack(x.calls() % 2);
        }
        Check.same("the 512th call", x.get(Check.PAST, 0), 5);
    }

    private static void rowLimit(int row, String words) {
        Check.sentence("Terms: " + words);
        int limit = Check.LIMITS[row];
        Counted x = new Counted();
        for (int i = 0; i < limit; i++) {
            x.put(row, i, 1);
        }
        Check.holds("a full row", x, row, Check.rising(0, limit));
        Check.refusesState("one byte more", x, () -> x.put(row, 1, 1));
        Counted y = new Counted();
        for (int i = 0; i < limit; i += 8) {
            y.put(row, -1, 8);
        }
        Check.holds("filled by eights", y, row, Check.repeat(255, limit));
        Check.refusesState("eight bytes more", y, () -> y.put(row, 1, 8));
    }

    private static void lowestFirst() {
        Check.sentence("Terms: All numbers of more than one byte have the lowest first");
        for (int row = 0; row < 3; row++) {
            Counted x = new Counted();
            x.put(row, 0x0201, 2);
            x.put(row, 0x80F1E2D3C4B5A697L, 8);
            Check.holds("put", x, row, 0x01, 0x02, 0x97, 0xA6, 0xB5, 0xC4, 0xD3, 0xE2, 0xF1, 0x80);
        }
    }

    private static void placesCountFrom0() {
        Check.sentence("Terms: A byte's PLACE in a row counts from 0");
        for (int row = 0; row < 3; row++) {
            Counted x = new Counted();
            int limit = Check.LIMITS[row];
            Check.fill(x, row, Check.rising(7, limit));
            Check.same("the first place", x.get(row, 0), 7);
            Check.same("the last place", x.get(row, limit - 1), 7 + limit - 1 & 255);
        }
    }

    private static void newObject() {
        Check.sentence("Promise 1: Three empty rows");
        Counted x = new Counted();
        for (int row = 0; row < 3; row++) {
            int r = row;
            Check.same("size of new row " + r, x.size(r), 0);
            Check.refusesState("get of new row " + r, x, () -> x.get(r, 0));
            Check.same("crc of new row " + r, x.crc(r), 0);
            Check.same("hash of new row " + r, x.hash(r, 0), 46947589);
            Check.same("empty of new row " + r, x.empty(r), 0);
        }
        Counted other = new Counted();
        x.put(0, 5, 1);
        Check.same("another object's row", other.size(0), 0);
        other.put(0, 6, 1);
        Check.same("the first object's byte", x.get(0, 0), 5);
    }

    private static void putLowestBytes() {
        Check.sentence("Promise 2: Puts the lowest n bytes of v (the lowest first)");
        int[] all = {0x97, 0xA6, 0xB5, 0xC4, 0xD3, 0xE2, 0xF1, 0x80};
        for (int row = 0; row < 3; row++) {
            for (int n = 1; n <= 8; n++) {
                Counted x = new Counted();
                x.put(row, 0x80F1E2D3C4B5A697L, n);
                Check.holds("put of " + n, x, row, java.util.Arrays.copyOf(all, n));
            }
        }
        Counted x = new Counted();
        x.put(0, -1L, 8);
        x.put(0, 256L, 1);
        x.put(0, Long.MIN_VALUE, 8);
        x.put(0, Long.MAX_VALUE, 8);
        int[] due = Check.join(Check.repeat(255, 8), Check.bytes(0), Check.repeat(0, 7), Check.bytes(128),
            Check.repeat(255, 7), Check.bytes(127));
        Check.holds("the greatest and the least v", x, 0, due);
    }

    private static void putBehind() {
        Check.sentence("Promise 2: behind a row: 0 plain, 1 packed, 2 the past");
        Counted x = begun();
        x.put(0, 10, 1);
        Check.holds("put to 0", x, Check.PLAIN, 1, 2, 10);
        x.put(1, 0x0C0B, 2);
        Check.holds("put to 1", x, Check.PACKED, 3, 4, 5, 11, 12);
        x.put(2, 0x0F0E0D, 3);
        Check.holds("put to 2", x, Check.PAST, 6, 13, 14, 15);
        Check.holds("other puts leave it", x, Check.PLAIN, 1, 2, 10);
        Check.holds("other puts leave it", x, Check.PACKED, 3, 4, 5, 11, 12);
        Check.same("the past is what a pack looks back to", packedBehind(2), 1);
        Check.same("the packed row is not", packedBehind(1), 0);
    }

    private static int packedBehind(int row) {
        Counted x = new Counted();
        Check.fill(x, row, Check.text("abcd"));
        Check.fill(x, 0, Check.join(Check.text("abcd"), Check.rising(0, 8)));
        x.pack(0);
        return x.found(0);
    }

    private static void putNoSuchRow() {
        Check.sentence("Promise 2: IllegalArgumentException when there is no such row");
        Counted x = begun();
        for (int row : Check.NOT_0_TO_2) {
            Check.refusesArgument("put to row " + row, x, () -> x.put(row, 1, 1));
        }
    }

    private static void putWrongCount() {
        Check.sentence("Promise 2: IllegalArgumentException when n is not 1 .. 8");
        Counted x = begun();
        for (int row = 0; row < 3; row++) {
            int r = row;
            for (int n : new int[] {0, 9, -1, 10, Integer.MIN_VALUE, Integer.MAX_VALUE}) {
                Check.refusesArgument("put of " + n, x, () -> x.put(r, 1, n));
            }
        }
        x.put(Check.PLAIN, 7, 1);
        x.put(Check.PLAIN, 8, 8);
        Check.same("n of 1 and of 8", x.size(Check.PLAIN), 11);
    }

    private static void putNoRoom() {
        Check.sentence("Promise 2: IllegalStateException when it has no room for all");
        for (int row = 0; row < 3; row++) {
            int r = row;
            for (int n = 1; n <= 8; n++) {
                int count = n;
                Counted x = begun();
                int[] tooFull = Check.rising(9, Check.LIMITS[r] - n + 1);
                Check.fill(x, r, tooFull);
                Check.refusesState("put of " + n + " with room for one less", x, () -> x.put(r, -1, count));
                int[] justRoom = Check.rising(9, Check.LIMITS[r] - n);
                Check.fill(x, r, justRoom);
                x.put(r, 0x0807060504030201L, n);
                Check.holds("put of " + n + " with just the room", x, r, Check.join(justRoom, Check.rising(1, n)));
            }
        }
    }

    private static void putTwoFaults() {
        Check.sentence("Promise 2: what is no put at all is refused as such, though the row is full");
        for (int row = 0; row < 3; row++) {
            int r = row;
            Counted x = new Counted();
            Check.fill(x, r, Check.repeat(7, Check.LIMITS[r]));
            Check.refusesArgument("n 9 with a full row", x, () -> x.put(r, 1, 9));
            Check.refusesArgument("n 0 with a full row", x, () -> x.put(r, 1, 0));
            Check.refusesArgument("n -1 with a full row", x, () -> x.put(r, 1, -1));
        }
    }

    private static void emptyTellsHowMany() {
        Check.sentence("Promise 3: Empties a row: how many bytes it had");
        for (int row = 0; row < 3; row++) {
            Counted x = begun();
            int r = row;
            int had = new int[] {2, 3, 1}[r];
            Check.same("empty", x.empty(r), had);
            for (int other = 0; other < 3; other++) {
                Check.same("size after empty", x.size(other), other == r ? 0 : new int[] {2, 3, 1}[other]);
            }
            Check.refusesState("get of an emptied row", x, () -> x.get(r, 0));
            Check.same("empty of an empty row", x.empty(r), 0);
            x.put(r, 99, 1);
            Check.holds("put after empty", x, r, 99);
            Check.fill(x, r, Check.repeat(1, Check.LIMITS[r]));
            Check.same("empty of a full row", x.empty(r), Check.LIMITS[r]);
            Check.fill(x, r, Check.rising(5, Check.LIMITS[r]));
            Check.holds("filled again", x, r, Check.rising(5, Check.LIMITS[r]));
        }
    }

    private static void emptyNoSuchRow() {
        Check.sentence("Promise 3: IllegalArgumentException when there is no such row");
        Counted x = begun();
        for (int row : Check.NOT_0_TO_2) {
            Check.refusesArgument("empty of row " + row, x, () -> x.empty(row));
        }
    }

    private static void sizeTellsHowMany() {
        Check.sentence("Promise 6: How many bytes a row has");
        for (int row = 0; row < 3; row++) {
            Counted x = new Counted();
            for (int n = 0; n < Check.LIMITS[row]; n++) {
                Check.same("size of row " + row, x.size(row), n);
                x.put(row, n, 1);
            }
            Check.same("size of a full row", x.size(row), Check.LIMITS[row]);
        }
        Counted x = new Counted();
        for (int row = 0; row < 3; row++) {
            Check.fill(x, row, Check.repeat(9, Check.LIMITS[row]));
        }
        for (int row = 0; row < 3; row++) {
            Check.same("size of row " + row + " with all full", x.size(row), Check.LIMITS[row]);
        }
    }

    private static void sizeNoSuchRow() {
        Check.sentence("Promise 6: IllegalArgumentException when there is no such row");
        Counted x = begun();
        for (int row : Check.NOT_0_TO_2) {
            Check.refusesArgument("size of row " + row, x, () -> x.size(row));
        }
    }

    private static void getIs0To255() {
        Check.sentence("Promise 7: Byte k of a row, 0 .. 255");
        for (int row = 0; row < 3; row++) {
            for (int b = 0; b < 256; b++) {
                Counted x = begun();
                x.empty(row);
                x.put(row, b, 1);
                Check.same("byte " + b, x.get(row, 0), b);
            }
        }
    }

    private static void getNoSuchRow() {
        Check.sentence("Promise 7: IllegalArgumentException when there is no such row");
        Counted x = begun();
        for (int row : Check.NOT_0_TO_2) {
            Check.refusesArgument("get of row " + row, x, () -> x.get(row, 0));
            Check.refusesArgument("get -1 of row " + row, x, () -> x.get(row, -1));
            Check.refusesArgument("get 200 of row " + row, x, () -> x.get(row, 200));
        }
    }

    private static void getNoSuchByte() {
        Check.sentence("Promise 7: IllegalStateException when there is no such byte");
        for (int row = 0; row < 3; row++) {
            int r = row;
            for (int size : new int[] {0, 1, 2, Check.LIMITS[r] - 1, Check.LIMITS[r]}) {
                Counted x = new Counted();
                Check.fill(x, r, Check.repeat(3, size));
                for (int k : new int[] {size, size + 1, 200, 256, -1, Integer.MIN_VALUE, Integer.MAX_VALUE}) {
                    Check.refusesState("get " + k + " of " + size, x, () -> x.get(r, k));
                }
                if (size > 0) {
                    Check.same("the last byte of " + size, x.get(r, size - 1), 3);
                }
            }
            Counted x = new Counted();
            Check.fill(x, r, 1, 2, 3);
            x.empty(r);
            x.put(r, 4, 1);
            Check.refusesState("get of a byte that was there once", x, () -> x.get(r, 1));
        }
    }
}
