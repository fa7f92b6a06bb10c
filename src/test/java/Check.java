/** What the tests share: counts wrong answers, prints them, and ends the program with 1 if there was one. */
final class Check {
    static final int PLAIN = 0;
    static final int PACKED = 1;
    static final int PAST = 2;

    private static int wrong = 0;
    private static int checked = 0;

    /** One call of the face. */
    interface Call {
        void run();
    }

    private Check() {
    }

    static void same(String what, long got, long due) {
        checked++;
        if (got != due) {
            wrong++;
            System.out.println(what + " answered " + got + ", due is " + due);
        }
    }

    static void refusesArgument(String what, Call call) {
        throwsExactly(what, IllegalArgumentException.class, call);
    }

    static void refusesState(String what, Call call) {
        throwsExactly(what, IllegalStateException.class, call);
    }

    private static void throwsExactly(String what, Class<?> due, Call call) {
        checked++;
        Class<?> got = null;
        try {
            call.run();
        } catch (RuntimeException e) {
            got = e.getClass();
        }
        if (got != due) {
            wrong++;
            System.out.println(what + " threw " + got + ", due is " + due);
        }
    }

    static void isTrue(String what, boolean holds) {
        same(what, holds ? 1 : 0, 1);
    }

    static void fill(PressSuite x, int row, int... bytes) {
        x.empty(row);
        for (int from = 0; from < bytes.length; from += 8) {
            int n = Math.min(8, bytes.length - from);
            long v = 0;
            for (int i = n - 1; i >= 0; i--) {
                v = v << 8 | bytes[from + i] & 255;
            }
            x.put(row, v, n);
        }
    }

    static void holds(String what, PressSuite x, int row, int... bytes) {
        int size = x.size(row);
        same(what + ", size of row " + row, size, bytes.length);
        for (int k = 0; k < bytes.length && k < size; k++) {
            same(what + ", byte " + k + " of row " + row, x.get(row, k), bytes[k] & 255);
        }
    }

    static int[] text(String s) {
        return s.chars().toArray();
    }

    static int[] repeat(int b, int times) {
        int[] out = new int[times];
        java.util.Arrays.fill(out, b);
        return out;
    }

    /** The bytes first, first + 1, ..: no four of them come twice. */
    static int[] rising(int first, int times) {
        int[] out = new int[times];
        for (int i = 0; i < times; i++) {
            out[i] = first + i & 255;
        }
        return out;
    }

    static int[] join(int[]... parts) {
        return java.util.Arrays.stream(parts).flatMapToInt(java.util.Arrays::stream).toArray();
    }

    static int[] bytes(int... b) {
        return b;
    }

    static void finish() {
        System.out.println(checked + " checks, " + wrong + " wrong");
        if (wrong != 0 || checked == 0) {
            System.exit(1);
        }
    }
}
