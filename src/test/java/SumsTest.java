import java.util.Random;
import java.util.zip.CRC32C;

/** Promises 9 (crc) and 10 (hash); wrong rows are in RowsTest. */
public final class SumsTest {
    private static final int[] LIMITS = {160, 200, 64};

    public static void main(String[] args) {
        knownCrcs();
        crcIsThatOfTheLibrary();
        knownHashes();
        hashIsThatOfTheModel();
        sumsChangeNothing();
        Check.finish();
    }

    private static void knownCrcs() {
        PressSuite x = new PressSuite();
        Check.same("crc of nothing", x.crc(0), 0);
        Check.fill(x, 1, Check.text("123456789"));
        Check.same("crc of 123456789", x.crc(1), 0xE3069283);
        Check.fill(x, 2, Check.repeat(0, 32));
        Check.same("crc of 32 zeros", x.crc(2), 0x8A9136AA);
        Check.fill(x, 2, Check.repeat(255, 32));
        Check.same("crc of 32 times 255", x.crc(2), 0x62A8AB43);
        Check.fill(x, 0, Check.rising(0, 32));
        Check.same("crc of 0 to 31", x.crc(0), 0x46DD794E);
    }

    private static void crcIsThatOfTheLibrary() {
        Random random = new Random(9);
        for (int row = 0; row < 3; row++) {
            for (int size = 0; size <= LIMITS[row]; size++) {
                PressSuite x = new PressSuite();
                int[] bytes = random.ints(size, 0, 256).toArray();
                Check.fill(x, row, bytes);
                CRC32C library = new CRC32C();
                for (int b : bytes) {
                    library.update(b);
                }
                Check.same("crc of " + size + " bytes", x.crc(row), (int) library.getValue());
            }
        }
    }

    // These are published sums of xxHash with 32 bits, which is what the document describes.
    private static void knownHashes() {
        PressSuite x = new PressSuite();
        Check.same("hash of nothing", x.hash(0, 0), 0x02CC5D05);
        Check.same("hash of nothing, seed P1", x.hash(0, 0x9E3779B1), 0x36B78AE7);
        Check.fill(x, 0, Check.text("a"));
        Check.same("hash of a", x.hash(0, 0), 0x550D7456);
        Check.fill(x, 0, Check.text("abc"));
        Check.same("hash of abc", x.hash(0, 0), 0x32D153FF);
        Check.fill(x, 1, Check.text("Nobody inspects the spammish repetition"));
        Check.same("hash of 39 bytes", x.hash(1, 0), 0xE2293B2F);
    }

    private static void hashIsThatOfTheModel() {
        Random random = new Random(10);
        int[] seeds = {0, 1, -1, Integer.MIN_VALUE, Integer.MAX_VALUE, 0x9E3779B1};
        for (int row = 0; row < 3; row++) {
            for (int size = 0; size <= LIMITS[row]; size++) {
                PressSuite x = new PressSuite();
                int[] bytes = random.ints(size, 0, 256).toArray();
                Check.fill(x, row, bytes);
                for (int seed : seeds) {
                    Check.same("hash of " + size + " bytes, seed " + seed, x.hash(row, seed), Model.hash(bytes, seed));
                }
                int seed = random.nextInt();
                Check.same("hash of " + size + " bytes, seed " + seed, x.hash(row, seed), Model.hash(bytes, seed));
            }
        }
    }

    private static void sumsChangeNothing() {
        PressSuite x = new PressSuite();
        int[] bytes = Check.rising(200, 61);
        Check.fill(x, 2, bytes);
        int crc = x.crc(2);
        int hash = x.hash(2, 3);
        Check.same("crc again", x.crc(2), crc);
        Check.same("hash again", x.hash(2, 3), hash);
        Check.holds("after the sums", x, 2, bytes);
    }
}
