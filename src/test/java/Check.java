import java.util.Arrays;

/** What the tests share: counts wrong answers, prints them, and ends the program with 1 if there was one. */
final class Check {
    static final int PLAIN = 0;
    static final int PACKED = 1;
    static final int PAST = 2;
    static final int[] LIMITS = {160, 200, 64};
    static final int[] NOT_0_TO_1 = {-1, 2, 3, Integer.MIN_VALUE, Integer.MAX_VALUE};
    static final int[] NOT_0_TO_2 = {-1, 3, 4, Integer.MIN_VALUE, Integer.MAX_VALUE};

    private static int wrong = 0;
    private static int checked = 0;
    private static int sentences = 0;
    private static String sentence = "";

    /** One call of the face, or one test. */
    interface Call {
        void run();
    }

    private Check() {
    }

    /** The checks of the test that is run are those of this sentence of the document; a wrong answer is told with it. */
    static void sentence(String words) {
        sentence = "[" + words + "] ";
    }

    /** Runs tests of one sentence each; what a test did not expect to be thrown ends that test alone. */
    static void run(Call... tests) {
        for (Call test : tests) {
            int before = checked;
            sentence = "[a test without its sentence] ";
            sentences++;
            try {
                test.run();
            } catch (RuntimeException | AssertionError e) {
                tell("was ended by " + e);
                continue;
            }
            // A sentence under which nothing is checked would look tested and not be.
            if (checked == before) {
                tell("nothing is checked");
            }
        }
    }

    private static void tell(String fault) {
        wrong++;
        System.out.println(sentence + fault);
    }

    static void same(String what, long got, long due) {
        checked++;
        if (got != due) {
            tell(what + " answered " + got + ", due is " + due);
        }
    }

    static void isTrue(String what, boolean holds) {
        same(what, holds ? 1 : 0, 1);
    }

    /** The call throws IllegalArgumentException and leaves the object as it was. */
    static void refusesArgument(String what, Counted x, Call call) {
        refuses(what, IllegalArgumentException.class, x, call);
    }

    /** The call throws IllegalStateException and leaves the object as it was. */
    static void refusesState(String what, Counted x, Call call) {
        refuses(what, IllegalStateException.class, x, call);
    }

    private static void refuses(String what, Class<?> due, Counted x, Call call) {
        String before = whole(x);
        throwsExactly(what, due, call);
        unchanged(what, before, x);
    }

    static void throwsExactly(String what, Class<?> due, Call call) {
        Class<?> got = null;
        try {
            call.run();
        } catch (RuntimeException e) {
            got = e.getClass();
        }
        checked++;
        if (got != due) {
            tell(what + " threw " + got + ", due is " + due);
        }
    }

    /** What an object holds; by sums, which take fewer calls than the bytes. */
    static String whole(Counted x) {
        StringBuilder out = new StringBuilder();
        for (int row = 0; row < 3; row++) {
            out.append(x.size(row)).append(" bytes of sum ").append(x.crc(row)).append(", ");
        }
        return out.append(x.found(0)).append(" matches of ").append(x.found(1)).toString();
    }

    static void unchanged(String what, String before, Counted x) {
        String after = whole(x);
        checked++;
        if (!after.equals(before)) {
            tell(what + " left " + after + ", before it was " + before);
        }
    }

    static int[] held(Counted x, int row) {
        int[] out = new int[x.size(row)];
        for (int k = 0; k < out.length; k++) {
            out[k] = x.get(row, k);
        }
        return out;
    }

    static void fill(Counted x, int row, int... bytes) {
        x.empty(row);
        for (int from = 0; from < bytes.length; from += 8) {
            int n = Math.min(8, bytes.length - from);
            long v = 0;
            for (int i = n - 1; i >= 0; i--) {
                v = v << 8 | bytes[from + i] & 255;
            }
            x.put(row, v, n);
        }
    }

    static void holds(String what, Counted x, int row, int... bytes) {
        int size = x.size(row);
        same(what + ", size of row " + row, size, bytes.length);
        for (int k = 0; k < bytes.length && k < size; k++) {
            same(what + ", byte " + k + " of row " + row, x.get(row, k), bytes[k] & 255);
        }
    }

    static int[] text(String s) {
        return s.chars().toArray();
    }

    static int[] repeat(int b, int times) {
        int[] out = new int[times];
        Arrays.fill(out, b);
        return out;
    }

    /** The bytes first, first + 1, ..: no four of them come twice. */
    static int[] rising(int first, int times) {
        int[] out = new int[times];
        for (int i = 0; i < times; i++) {
            out[i] = first + i & 255;
        }
        return out;
    }

    static int[] join(int[]... parts) {
        return Arrays.stream(parts).flatMapToInt(Arrays::stream).toArray();
    }

    static int[] bytes(int... b) {
        return b;
    }

    static void finish() {
        String of = sentences == 0 ? "" : " of " + sentences + " sentences";
        System.out.println(checked + " checks" + of + ", " + wrong + " wrong");
        if (wrong != 0 || checked == 0) {
            System.exit(1);
        }
    }
}
