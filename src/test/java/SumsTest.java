import java.util.Random;
import java.util.zip.CRC32C;

/** Promises 9 (crc) and 10 (hash), and what 'Terms' says of the two sums. */
public final class SumsTest {
    private static final int P1 = 0x9E3779B1;
    private static final int[] SEEDS = {0, 1, -1, Integer.MIN_VALUE, Integer.MAX_VALUE, P1};

    public static void main(String[] args) {
        Check.run(
            SumsTest::crcOfNothing,
            SumsTest::crcOfBytes,
            SumsTest::crcBit,
            SumsTest::crcOfEverySize,
            SumsTest::crcNoSuchRow,
            SumsTest::hashOfFewerThan16,
            SumsTest::hashOf16OrMore,
            SumsTest::hashOfTheRest,
            SumsTest::hashWraps,
            SumsTest::hashOfEverySize,
            SumsTest::hashNoSuchRow,
            SumsTest::sumsChangeNothing);
        Check.finish();
    }

    private static Counted with(int row, int... bytes) {
        Counted x = new Counted();
        Check.fill(x, row, bytes);
        return x;
    }

    private static void crc(String what, int due, int... bytes) {
        for (int row = 0; row < 3; row++) {
            Check.same("crc of " + what, with(row, bytes).crc(row), due);
        }
    }

    private static void crcOfNothing() {
        Check.sentence("Terms, CRC: r is -1 at first; the sum is ~r");
        crc("nothing", 0);
    }

    private static void crcOfBytes() {
        Check.sentence("Terms, CRC: for each byte: r = r ^ byte");
        crc("the greatest byte", 0xFF000000, 255);
        crc("the least byte", 0x527D5351, 0);
        crc("123456789", 0xE3069283, Check.text("123456789"));
        crc("32 zeros", 0x8A9136AA, Check.repeat(0, 32));
        crc("32 times 255", 0x62A8AB43, Check.repeat(255, 32));
        crc("0 to 31", 0x46DD794E, Check.rising(0, 32));
    }

    private static void crcBit() {
        Check.sentence("Terms, CRC: eight times r >>> 1, and ^ -2097792136 if the bit that fell out was 1");
        // Of -1 ^ 127 the low eight bits are 10000000: a 1 falls out the last time alone. Of -1 ^ 255 none does.
        crc("a 1 at last", ~(0x00FFFFFF ^ -2097792136), 127);
        crc("no 1 at all", ~0x00FFFFFF, 255);
        // 00000001: a 1 falls out at first; F26B8303 is entry 1 of the published table of this polynomial.
        crc("a 1 at first", ~(0x00FFFFFF ^ 0xF26B8303), 254);
    }

    private static void crcOfEverySize() {
        Check.sentence("Promise 9: The CRC of a row");
        Random random = new Random(9);
        for (int row = 0; row < 3; row++) {
            for (int size = 0; size <= Check.LIMITS[row]; size++) {
                int[] bytes = random.ints(size, 0, 256).toArray();
                CRC32C library = new CRC32C();
                for (int b : bytes) {
                    library.update(b);
                }
                Check.same("crc of " + size + " bytes", with(row, bytes).crc(row), (int) library.getValue());
            }
        }
    }

    private static void crcNoSuchRow() {
        Check.sentence("Promise 9: IllegalArgumentException when there is no such row");
        Counted x = with(0, 1, 2, 3);
        for (int row : Check.NOT_0_TO_2) {
            Check.refusesArgument("crc of row " + row, x, () -> x.crc(row));
        }
    }

    private static void hash(String what, int seed, int due, int... bytes) {
        for (int row = 0; row < 3; row++) {
            if (bytes.length <= Check.LIMITS[row]) {
                Check.same("hash of " + what + ", seed " + seed, with(row, bytes).hash(row, seed), due);
            }
        }
    }

    /** The bytes with which xxHash's own program tests itself; its sums with 32 bits are what the document describes. */
    private static int[] published(int size) {
        int[] out = new int[size];
        int state = P1;
        for (int i = 0; i < size; i++) {
            out[i] = state >>> 24;
            state *= state;
        }
        return out;
    }

    private static void hashOfFewerThan16() {
        Check.sentence("Terms, HASH: With fewer: h = seed + P5");
        hash("nothing", 0, 0x02CC5D05);
        hash("nothing", P1, 0x36B78AE7);
        hash("a", 0, 0x550D7456, Check.text("a"));
        hash("abc", 0, 0x32D153FF, Check.text("abc"));
        hash("1 byte", 0, 0xB85CBEE5, published(1));
        hash("1 byte", P1, 0xD5845D64, published(1));
        hash("14 bytes", 0, 0xE5AA0AB4, published(14));
        hash("14 bytes", P1, 0x4481951D, published(14));
        hash("15 bytes", 7, Model.hash(published(15), 7), published(15));
    }

    private static void hashOf16OrMore() {
        Check.sentence("Terms, HASH: With 16 bytes or more: four LANES; for each 16 bytes");
        hash("39 bytes", 0, 0xE2293B2F, Check.text("Nobody inspects the spammish repetition"));
        hash("101 bytes", 0, 0x1F1AA412, published(101));
        hash("101 bytes", P1, 0x498EC8E2, published(101));
        for (int size : new int[] {16, 17, 31, 32, 33, 47, 48, 63, 64}) {
            hash(size + " bytes", 5, Model.hash(published(size), 5), published(size));
        }
    }

    private static void hashOfTheRest() {
        Check.sentence("Terms, HASH: for each four bytes that are left; for each byte that is left");
        for (int whole = 0; whole <= 32; whole += 16) {
            for (int rest : new int[] {0, 1, 3, 4, 5, 7, 8, 11, 12, 13, 15}) {
                int[] bytes = published(whole + rest);
                hash(whole + rest + " bytes", 3, Model.hash(bytes, 3), bytes);
            }
        }
        hash("a byte above 127 that is left", 0, Model.hash(Check.bytes(255), 0), 255);
        hash("four bytes above 127 that are left", 0, Model.hash(Check.repeat(255, 4), 0), Check.repeat(255, 4));
    }

    private static void hashWraps() {
        Check.sentence("Terms, HASH: all ints wrap");
        for (int seed : new int[] {Integer.MIN_VALUE, Integer.MAX_VALUE, -1, -374761393, -374761394, P1, -P1}) {
            for (int size : new int[] {0, 1, 15, 16, 64}) {
                hash(size + " bytes", seed, Model.hash(Check.repeat(255, size), seed), Check.repeat(255, size));
            }
        }
        // h begins as 0 here, and all that follows leaves it so.
        hash("nothing, with a seed that P5 brings to 0", -374761393, 0);
    }

    private static void hashOfEverySize() {
        Check.sentence("Promise 10: The HASH of a row with a seed");
        Random random = new Random(10);
        for (int row = 0; row < 3; row++) {
            for (int size = 0; size <= Check.LIMITS[row]; size++) {
                int[] bytes = random.ints(size, 0, 256).toArray();
                Counted x = with(row, bytes);
                for (int seed : SEEDS) {
                    Check.same("hash of " + size + " bytes, seed " + seed, x.hash(row, seed), Model.hash(bytes, seed));
                }
                int seed = random.nextInt();
                Check.same("hash of " + size + " bytes, seed " + seed, x.hash(row, seed), Model.hash(bytes, seed));
            }
        }
    }

    private static void hashNoSuchRow() {
        Check.sentence("Promise 10: IllegalArgumentException when there is no such row");
        Counted x = with(0, 1, 2, 3);
        for (int row : Check.NOT_0_TO_2) {
            for (int seed : SEEDS) {
                Check.refusesArgument("hash of row " + row, x, () -> x.hash(row, seed));
            }
        }
    }

    private static void sumsChangeNothing() {
        Check.sentence("Promises 9 and 10: a sum is of one row and changes none");
        Counted x = with(2, Check.rising(200, 61));
        Check.fill(x, 0, Check.text("123456789"));
        String before = Check.whole(x);
        int crc = x.crc(2);
        int hash = x.hash(2, 3);
        Check.same("crc of another row", x.crc(0), 0xE3069283);
        Check.same("crc of an empty row", x.crc(1), 0);
        Check.same("crc again", x.crc(2), crc);
        Check.same("hash again", x.hash(2, 3), hash);
        Check.unchanged("the sums", before, x);
    }
}
