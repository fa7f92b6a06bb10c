import java.util.ArrayList;
import java.util.List;
import java.util.Random;
import java.util.zip.CRC32C;

/** All promises in runs of 512 mixed calls on one object; a twin of lists says what is due. */
public final class RunsTest {
    private static final int RUNS = 1500;

    private final Counted x = new Counted();
    private final List<List<Integer>> rows = List.of(new ArrayList<>(), new ArrayList<>(), new ArrayList<>());
    private final Random random;
    private final String name;
    private int matches = 0;
    private int copied = 0;

    private RunsTest(int run) {
        random = new Random(run);
        name = "run " + run + ", ";
    }

    public static void main(String[] args) {
        for (int run = 0; run < RUNS; run++) {
            RunsTest test = new RunsTest(run);
            for (int call = 0; call < Counted.MOST_CALLS; call++) {
                test.call();
            }
        }
        Check.finish();
    }

    private int[] row(int row) {
        return rows.get(row).stream().mapToInt(Integer::intValue).toArray();
    }

    private void call() {
        int row = random.nextInt(60) == 0 ? random.nextInt() | 4 : random.nextInt(3);
        int format = random.nextInt(60) == 0 ? random.nextInt() | 2 : random.nextInt(2);
        int kind = random.nextInt(40);
        if (kind < 20) {
            put(row);
        } else if (kind < 22) {
            pack(format);
        } else if (kind < 25) {
            unpack(format);
        } else if (kind < 26) {
            empty(row);
        } else if (kind < 28) {
            size(row);
        } else if (kind < 34) {
            get(row);
        } else if (kind < 36) {
            found(format);
        } else if (kind < 38) {
            crc(row);
        } else {
            hash(row);
        }
    }

    private boolean noSuchRow(int row, Check.Call call) {
        if (row >= 0 && row <= 2) {
            return false;
        }
        Check.throwsExactly(name + "row " + row, IllegalArgumentException.class, call);
        return true;
    }

    private void put(int row) {
        int n = random.nextInt(40) == 0 ? random.nextInt(40) - 20 : 1 + random.nextInt(8);
        long v = random.nextInt(3) == 0 ? random.nextLong() : 0x0404040404040404L * random.nextInt(4);
        if (noSuchRow(row, () -> x.put(row, v, n))) {
            return;
        }
        if (n < 1 || n > 8) {
            Check.throwsExactly(name + "put of " + n, IllegalArgumentException.class, () -> x.put(row, v, n));
        } else if (rows.get(row).size() + n > Check.LIMITS[row]) {
            Check.throwsExactly(name + "put without room", IllegalStateException.class, () -> x.put(row, v, n));
        } else {
            x.put(row, v, n);
            for (int i = 0; i < n; i++) {
                rows.get(row).add((int) (v >> 8 * i & 255));
            }
        }
    }

    private void pack(int format) {
        if (format < 0 || format > 1) {
            Check.throwsExactly(name + "pack " + format, IllegalArgumentException.class, () -> x.pack(format));
            return;
        }
        Model.Packed due = Model.pack(format, row(2), row(0));
        Check.same(name + "pack " + format, x.pack(format), due.bytes.size());
        replace(1, due.bytes);
        matches = due.matches;
        copied = due.copied;
    }

    private void unpack(int format) {
        if (format < 0 || format > 1) {
            Check.throwsExactly(name + "unpack " + format, IllegalArgumentException.class, () -> x.unpack(format));
            return;
        }
        List<Integer> plain = new ArrayList<>();
        int due = Model.unpack(format, row(2), row(1), plain);
        Check.same(name + "unpack " + format, x.unpack(format), due);
        if (due >= 0) {
            replace(0, plain);
        }
    }

    private void replace(int row, List<Integer> bytes) {
        rows.get(row).clear();
        rows.get(row).addAll(bytes);
    }

    private void empty(int row) {
        if (!noSuchRow(row, () -> x.empty(row))) {
            Check.same(name + "empty " + row, x.empty(row), rows.get(row).size());
            rows.get(row).clear();
        }
    }

    private void size(int row) {
        if (!noSuchRow(row, () -> x.size(row))) {
            Check.same(name + "size " + row, x.size(row), rows.get(row).size());
        }
    }

    private void get(int row) {
        int k = random.nextInt(210) - 5;
        if (noSuchRow(row, () -> x.get(row, k))) {
            return;
        }
        if (k < 0 || k >= rows.get(row).size()) {
            Check.throwsExactly(name + "get " + k, IllegalStateException.class, () -> x.get(row, k));
        } else {
            Check.same(name + "get " + k, x.get(row, k), rows.get(row).get(k));
        }
    }

    private void found(int what) {
        if (what < 0 || what > 1) {
            Check.throwsExactly(name + "found " + what, IllegalArgumentException.class, () -> x.found(what));
        } else {
            Check.same(name + "found " + what, x.found(what), what == 0 ? matches : copied);
        }
    }

    private void crc(int row) {
        if (noSuchRow(row, () -> x.crc(row))) {
            return;
        }
        CRC32C library = new CRC32C();
        for (int b : row(row)) {
            library.update(b);
        }
        Check.same(name + "crc " + row, x.crc(row), (int) library.getValue());
    }

    private void hash(int row) {
        int seed = random.nextInt();
        if (!noSuchRow(row, () -> x.hash(row, seed))) {
            Check.same(name + "hash " + row, x.hash(row, seed), Model.hash(row(row), seed));
        }
    }
}
