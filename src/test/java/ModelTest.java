import java.util.ArrayList;
import java.util.Arrays;
import java.util.List;
import java.util.Random;

/** Runs with chosen and with spoilt rows, all answers held against the model; the seeds are fixed. */
public final class ModelTest {
    private static final int RUNS = 20000;

    public static void main(String[] args) {
        Random random = new Random(4);
        for (int run = 0; run < RUNS; run++) {
            packAndReadAgain(run, random);
            readSpoilt(run, random);
            readMadeUp(run, random);
        }
        Check.finish();
    }

    private static int[] row(Random random, int limit) {
        int size = random.nextInt(4) == 0 ? limit : random.nextInt(limit + 1);
        int letters = 1 + random.nextInt(random.nextBoolean() ? 3 : 256);
        int first = random.nextInt(256);
        int[] out = new int[size];
        for (int i = 0; i < size; i++) {
            boolean again = i > 0 && random.nextInt(4) > 0;
            out[i] = again && letters > 3 ? out[Math.max(0, i - 1 - letters % 23)] : first + random.nextInt(letters) & 255;
        }
        return out;
    }

    private static int[] ints(List<Integer> list) {
        return list.stream().mapToInt(Integer::intValue).toArray();
    }

    private static void packAndReadAgain(int run, Random random) {
        int[] past = row(random, 64);
        int[] plain = row(random, 160);
        if (random.nextBoolean() && past.length > 0) {
            for (int i = 0; i < plain.length && random.nextInt(30) > 0; i++) {
                plain[i] = past[i % past.length];
            }
        }
        int format = random.nextInt(2);
        Counted x = new Counted();
        Check.fill(x, Check.PAST, past);
        Check.fill(x, Check.PLAIN, plain);
        Model.Packed due = Model.pack(format, past, plain);
        String what = "run " + run + ", format " + format;
        Check.same(what + ", pack", x.pack(format), due.bytes.size());
        Check.same(what + ", found(0)", x.found(0), due.matches);
        Check.same(what + ", found(1)", x.found(1), due.copied);
        Check.isTrue(what + ", packed bytes", Arrays.equals(Check.held(x, Check.PACKED), ints(due.bytes)));
        x.empty(Check.PLAIN);
        Check.same(what + ", unpack", x.unpack(format), plain.length);
        Check.isTrue(what + ", read again", Arrays.equals(Check.held(x, Check.PLAIN), plain));
    }

    private static void readSpoilt(int run, Random random) {
        int[] past = row(random, 64);
        int format = random.nextInt(2);
        int[] packed = ints(Model.pack(format, past, row(random, 160)).bytes);
        for (int i = random.nextInt(3); i >= 0; i--) {
            packed[random.nextInt(packed.length)] = random.nextBoolean() ? random.nextInt(256) : random.nextInt(8);
        }
        if (random.nextInt(3) == 0) {
            packed = Arrays.copyOf(packed, random.nextInt(packed.length + 1));
        }
        if (random.nextInt(3) == 0) {
            past = Arrays.copyOf(past, past.length / 2);
        }
        read("spoilt run " + run + ", format " + format, format, past, packed);
    }

    private static void readMadeUp(int run, Random random) {
        int[] packed = new int[random.nextInt(random.nextInt(4) == 0 ? 201 : 24)];
        for (int i = 0; i < packed.length; i++) {
            packed[i] = random.nextInt(3) == 0 ? random.nextInt(256) : random.nextInt(12);
        }
        int format = random.nextInt(2);
        read("made up run " + run + ", format " + format, format, row(random, 64), packed);
    }

    private static void read(String what, int format, int[] past, int[] packed) {
        Counted x = new Counted();
        Check.fill(x, Check.PAST, past);
        Check.fill(x, Check.PACKED, packed);
        Check.fill(x, Check.PLAIN, 1, 2, 3);
        List<Integer> plain = new ArrayList<>();
        int due = Model.unpack(format, past, packed, plain);
        Check.same(what + ", unpack", x.unpack(format), due);
        int[] left = due < 0 ? Check.bytes(1, 2, 3) : ints(plain);
        Check.isTrue(what + ", plain row", Arrays.equals(Check.held(x, Check.PLAIN), left));
        Check.isTrue(what + ", packed row", Arrays.equals(Check.held(x, Check.PACKED), packed));
        Check.isTrue(what + ", past", Arrays.equals(Check.held(x, Check.PAST), past));
    }
}
