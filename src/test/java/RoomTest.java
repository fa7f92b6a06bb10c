import com.sun.management.ThreadMXBean;
import java.lang.management.ManagementFactory;

/** That no call makes an object, for all the calls of a run live in one room. */
public final class RoomTest {
    private static final ThreadMXBean ROOM = (ThreadMXBean) ManagementFactory.getThreadMXBean();
    private static final int CALLS = 300;
    private static final int LEAST_OBJECT = 16;
    private static final int MOST_OF_A_NEW_OBJECT = 2500;

    private static PressSuite kept;

    public static void main(String[] args) {
        newObject();
        for (int format = 0; format < 2; format++) {
            for (int letters : new int[] {1, 3, 256}) {
                calls(format, letters);
            }
        }
        Check.finish();
    }

    private static long roomOf(Check.Call call, int times) {
        // The first time may load classes, which are no part of what a call makes.
        call.run();
        long before = ROOM.getCurrentThreadAllocatedBytes();
        for (int i = 0; i < times; i++) {
            call.run();
        }
        return ROOM.getCurrentThreadAllocatedBytes() - before;
    }

    private static void newObject() {
        long bytes = roomOf(() -> kept = new PressSuite(), CALLS) / CALLS;
        Check.isTrue("a new object takes " + bytes + " bytes", bytes > 0 && bytes <= MOST_OF_A_NEW_OBJECT);
    }

    private static void makesNothing(String what, Check.Call call) {
        long bytes = roomOf(call, CALLS);
        Check.isTrue(what + " took " + bytes + " bytes in " + CALLS + " calls", bytes < (long) CALLS * LEAST_OBJECT);
    }

    private static Counted full(int letters) {
        Counted x = new Counted();
        for (int row = 0; row < 3; row++) {
            int[] bytes = new int[Check.LIMITS[row]];
            for (int i = 0; i < bytes.length; i++) {
                bytes[i] = i * i % letters;
            }
            Check.fill(x, row, bytes);
        }
        return x;
    }

    private static void calls(int format, int letters) {
        String what = ", " + letters + " letters";
        Counted malformed = full(letters);
        makesNothing("unpack " + format + " of no packed row" + what, () -> malformed.unpack(format));
        Counted packs = full(letters);
        makesNothing("pack " + format + what, () -> packs.pack(format));
        Counted reads = full(letters);
        reads.pack(format);
        makesNothing("unpack " + format + what, () -> reads.unpack(format));
        for (int row = 0; row < 3; row++) {
            int r = row;
            Counted sums = full(letters);
            makesNothing("crc" + what, () -> sums.crc(r));
            Counted hashes = full(letters);
            makesNothing("hash" + what, () -> hashes.hash(r, 5));
            Counted looks = full(letters);
            makesNothing("get" + what, () -> looks.get(r, 63));
            Counted sizes = full(letters);
            makesNothing("size" + what, () -> sizes.size(r));
            Counted founds = full(letters);
            makesNothing("found" + what, () -> founds.found(format));
            Counted empties = full(letters);
            makesNothing("empty" + what, () -> empties.empty(r));
            Counted puts = full(letters);
            puts.empty(r);
            makesNothing("put" + what, () -> putOrEmpty(puts, r));
        }
    }

    private static void putOrEmpty(Counted x, int row) {
        if (x.calls() % 9 == 0) {
            x.empty(row);
        } else {
            x.put(row, x.calls(), 8);
        }
    }
}
