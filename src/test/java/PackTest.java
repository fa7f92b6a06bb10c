/** Promises 4 (pack) and 8 (found) and what 'Terms' says of packing, with bytes worked out by hand from the document. */
public final class PackTest {
    private static final int A = 'a';
    private static final int[] NONE = {};
    private static final int[] ABCD = Check.text("abcd");

    public static void main(String[] args) {
        Check.run(
            PackTest::packedBecomes,
            PackTest::everythingIsReadAgain,
            PackTest::packWrongFormat,
            PackTest::foundIsOfTheLatestPack,
            PackTest::foundBefore,
            PackTest::foundAfterRefusals,
            PackTest::foundOfAnotherWhat,
            PackTest::lowestFirst,
            PackTest::literalSums0,
            PackTest::matchSums0,
            PackTest::size1,
            PackTest::tableOf32,
            PackTest::noneAtFirst,
            PackTest::hashOfAPlace,
            PackTest::fourBytesInThePast,
            PackTest::pastFrom0On,
            PackTest::plainFrom0On,
            PackTest::atLeast12Bytes,
            PackTest::becomesThisPlace,
            PackTest::fourTheSame,
            PackTest::oneByOne,
            PackTest::notIntoTheLast5,
            PackTest::behindTheMatch,
            PackTest::lastLiterals,
            PackTest::literals1,
            PackTest::upTo11,
            PackTest::longMatches1,
            PackTest::distances1);
        Check.finish();
    }

    private static Counted with(int[] past, int... plain) {
        Counted x = new Counted();
        Check.fill(x, Check.PAST, past);
        Check.fill(x, Check.PLAIN, plain);
        return x;
    }

    private static void due(String what, int[] past, int[] plain, int format, int[] packed, int matches, int copied) {
        Counted x = with(past, plain);
        Check.same(what + ", pack", x.pack(format), packed.length);
        Check.holds(what, x, Check.PACKED, packed);
        Check.same(what + ", found(0)", x.found(0), matches);
        Check.same(what + ", found(1)", x.found(1), copied);
    }

    /** No match: the literals alone. */
    private static void noMatch(String what, int[] past, int... plain) {
        int n = plain.length;
        int[] head0 = n < 15 ? Check.bytes(n << 4) : Check.bytes(0xF0, n - 15);
        due(what + ", format 0", past, plain, 0, Check.join(head0, plain), 0, 0);
        int[] size = n < 128 ? Check.bytes(n) : Check.bytes(n, 1);
        int[] head1 = n == 0 ? NONE : n <= 60 ? Check.bytes((n - 1) << 2) : Check.bytes(240, n - 1);
        due(what + ", format 1", past, plain, 1, Check.join(size, head1, plain), 0, 0);
    }

    // Promise 4

    private static void packedBecomes() {
        Check.sentence("Promise 4: The packed row becomes the plain one, packed: how many bytes");
        noMatch("nothing", NONE);
        noMatch("one byte", NONE, 5);
        noMatch("a full plain row in which nothing comes twice", NONE, Check.rising(0, 160));
        noMatch("a full plain row behind a full past", Check.rising(180, 64), Check.rising(0, 160));
        Counted known = with(NONE, Check.rising(0, 160));
        Check.same("the most that format 0 takes", known.pack(0), 162);
        Check.same("the most that format 1 takes", known.pack(1), 164);
        for (int format = 0; format < 2; format++) {
            int[] past = Check.rising(10, 64);
            int[] plain = Check.repeat(7, 40);
            Counted x = with(past, plain);
            Check.fill(x, Check.PACKED, Check.repeat(200, 200));
            int count = x.pack(format);
            Check.same("in place of a full packed row", x.size(Check.PACKED), count);
            Check.same("again", x.pack(format), count);
            Check.same("the size after the second", x.size(Check.PACKED), count);
            Check.holds("the past is left", x, Check.PAST, past);
            Check.holds("the plain row is left", x, Check.PLAIN, plain);
            x.empty(Check.PLAIN);
            Check.same("nothing, in place of something", x.pack(format), 1);
            Check.holds("nothing, in place of something", x, Check.PACKED, 0);
        }
    }

    private static void everythingIsReadAgain() {
        Check.sentence("What it is: what was packed is read again byte by byte");
        for (int format = 0; format < 2; format++) {
            for (int n = 0; n <= 160; n++) {
                int[] plain = new int[n];
                for (int i = 0; i < n; i++) {
                    plain[i] = i * i / 7 % 5;
                }
                Counted x = with(Check.rising(0, n % 65), plain);
                int count = x.pack(format);
                x.empty(Check.PLAIN);
                Check.same("read again", x.unpack(format), n);
                Check.holds("read again", x, Check.PLAIN, plain);
                Check.same("the packed row after unpack", x.size(Check.PACKED), count);
            }
        }
    }

    private static void packWrongFormat() {
        Check.sentence("Promise 4: IllegalArgumentException when there is no such format");
        Counted x = with(ABCD, Check.repeat(A, 30));
        Check.fill(x, Check.PACKED, 1, 2, 3);
        for (int format : Check.NOT_0_TO_1) {
            Check.refusesArgument("pack " + format, x, () -> x.pack(format));
        }
        Check.holds("after refused packs", x, Check.PACKED, 1, 2, 3);
    }

    // Promise 8

    private static void foundIsOfTheLatestPack() {
        Check.sentence("Promise 8: Of the latest pack: how many matches it had (what 0), how many bytes they copied (1)");
        for (int format = 0; format < 2; format++) {
            Counted x = with(NONE, Check.repeat(A, 160));
            x.pack(format);
            Check.same("one match, the longest", x.found(0), 1);
            Check.same("its bytes", x.found(1), 154);
            Check.fill(x, Check.PLAIN, Check.join(Check.repeat(7, 12), Check.repeat(9, 12), Check.rising(20, 12)));
            x.pack(format);
            Check.same("two matches", x.found(0), 2);
            Check.same("their bytes", x.found(1), 22);
            x.pack(format);
            Check.same("two matches again", x.found(0), 2);
            Check.same("their bytes again", x.found(1), 22);
            x.empty(Check.PLAIN);
            Check.same("a plain row emptied since", x.found(0), 2);
            x.pack(format);
            Check.same("no match", x.found(0), 0);
            Check.same("no bytes", x.found(1), 0);
        }
        int[] runs = NONE;
        for (int b = 0; b < 15; b++) {
            runs = Check.join(runs, Check.repeat(b, 10));
        }
        Counted many = with(NONE, runs);
        many.pack(0);
        Check.same("a match in each run but the last", many.found(0), 14);
        Check.same("their bytes", many.found(1), 14 * 9);
    }

    private static void foundBefore() {
        Check.sentence("Promise 8: 0 before");
        Counted x = with(NONE, Check.repeat(A, 30));
        Check.same("matches", x.found(0), 0);
        Check.same("bytes", x.found(1), 0);
        Check.fill(x, Check.PACKED, 0x1F, 5, 1, 0, 0, 0);
        x.unpack(0);
        Check.same("matches after an unpack", x.found(0), 0);
        Check.same("bytes after an unpack", x.found(1), 0);
    }

    private static void foundAfterRefusals() {
        Check.sentence("Promise 8: the latest pack that was done");
        Counted x = with(NONE, Check.repeat(A, 30));
        for (int format : Check.NOT_0_TO_1) {
            Check.refusesArgument("pack " + format + " before any", x, () -> x.pack(format));
        }
        Check.same("matches before any was done", x.found(0), 0);
        x.pack(1);
        x.empty(Check.PLAIN);
        Check.refusesArgument("pack 2", x, () -> x.pack(2));
        x.unpack(1);
        x.empty(Check.PACKED);
        x.unpack(0);
        Check.same("matches stand", x.found(0), 1);
        Check.same("bytes stand", x.found(1), 24);
    }

    private static void foundOfAnotherWhat() {
        Check.sentence("Promise 8: IllegalArgumentException for another what");
        Counted x = with(NONE, Check.repeat(A, 30));
        for (int what : Check.NOT_0_TO_1) {
            Check.refusesArgument("found " + what + " before a pack", x, () -> x.found(what));
        }
        x.pack(0);
        for (int what : Check.NOT_0_TO_1) {
            Check.refusesArgument("found " + what, x, () -> x.found(what));
        }
    }

    // Terms, the formats as they are written

    private static void lowestFirst() {
        Check.sentence("Terms: All numbers of more than one byte have the lowest first (a distance)");
        int[] plain = Check.join(ABCD, Check.rising(0, 8));
        due("format 0", ABCD, plain, 0, Check.join(Check.bytes(0x00, 4, 0, 0x80), Check.rising(0, 8)), 1, 4);
        due("format 1, kind 2", NONE, Check.repeat(A, 18), 1,
            Check.join(Check.bytes(18, 0, A, 46, 1, 0, 16), Check.repeat(A, 5)), 1, 12);
    }

    private static void literalSums0() {
        Check.sentence("Terms, FORMAT 0: WRITTEN, such sums have as few bytes as can be (literals)");
        for (int n = 0; n <= 160; n++) {
            int[] plain = Check.rising(3, n);
            int[] head = n < 15 ? Check.bytes(n << 4) : Check.bytes(0xF0, n - 15);
            due(n + " literals", NONE, plain, 0, Check.join(head, plain), 0, 0);
        }
        // The same before a match: a past of four bytes that come behind n others.
        for (int n : new int[] {0, 1, 14, 15, 16}) {
            int[] first = Check.rising(3, n);
            int[] head = n < 15 ? Check.bytes(n << 4) : Check.bytes(0xF0, n - 15);
            due(n + " literals before a match", ABCD, Check.join(first, ABCD, Check.rising(50, 8)), 0,
                Check.join(head, first, Check.bytes(4 + n, 0, 0x80), Check.rising(50, 8)), 1, 4);
        }
    }

    private static void matchSums0() {
        Check.sentence("Terms, FORMAT 0: WRITTEN, such sums have as few bytes as can be (copies)");
        for (int length = 7; length <= 154; length++) {
            int[] sum = length < 19 ? NONE : Check.bytes(length - 19);
            int[] packed = Check.join(Check.bytes(0x10 | Math.min(15, length - 4), A, 1, 0), sum,
                Check.bytes(0x50), Check.repeat(A, 5));
            due("a match of " + length, NONE, Check.repeat(A, length + 6), 0, packed, 1, length);
        }
        for (int length = 4; length <= 6; length++) {
            int[] last = Check.rising(0, 12 - length);
            due("a match of " + length, Check.repeat(A, 4), Check.join(Check.repeat(A, length), last), 0,
                Check.join(Check.bytes(length - 4, 4, 0, last.length << 4), last), 1, length);
        }
    }

    private static void size1() {
        Check.sentence("Terms, FORMAT 1: the size: seven bits a byte, the lowest first, 128 in each but the last one");
        for (int n : new int[] {0, 1, 126, 127, 128, 129, 159, 160}) {
            Counted x = with(NONE, Check.rising(0, n));
            x.pack(1);
            Check.same("size " + n + ", first byte", x.get(1, 0), n);
            if (n >= 128) {
                Check.same("size " + n + ", second byte", x.get(1, 1), 1);
            }
        }
        Counted full = with(Check.repeat(A, 64), Check.repeat(A, 160));
        full.pack(1);
        Check.same("the past is no part of the size", full.get(1, 0) + full.get(1, 1) * 256, 160 + 256);
    }

    // Terms, TO PACK

    private static void tableOf32() {
        Check.sentence("Terms, TO PACK: a TABLE of 32 places of the history");
        // 'cbcd' and 'xbcd' have slot 19 both (39 and 38 in a table of 64), 'kbcd' has 18 (both 9 in one of 16).
        int[] last = Check.rising(50, 8);
        int[] four = Check.text("cbcd");
        noMatch("taken by another", four, Check.join(Check.text("xbcd"), Check.bytes(1), four, last));
        due("not taken", four, Check.join(Check.text("kbcd"), Check.bytes(1), four, last), 0,
            Check.join(Check.bytes(0x50), Check.text("kbcd"), Check.bytes(1, 9, 0, 0x80), last), 1, 4);
        // These fours come to every slot, the first and the last one too.
        for (int b = 0; b < 256; b++) {
            int[] any = Check.bytes(b, 'b', 'c', 'd');
            due("four from " + b, any, Check.join(any, Check.rising(b + 1, 8)), 0,
                Check.join(Check.bytes(0x00, 4, 0, 0x80), Check.rising(b + 1, 8)), 1, 4);
        }
    }

    private static void noneAtFirst() {
        Check.sentence("Terms, TO PACK: all none at first");
        noMatch("twelve the same, no past", NONE, Check.repeat(A, 12));
        noMatch("twelve zeros, no past", NONE, Check.repeat(0, 12));
        // These fours come to every slot, so that each one is seen to be none.
        for (int b = 0; b < 256; b++) {
            int[] four = Check.bytes(b, 'b', 'c', 'd');
            int[] plain = Check.join(four, Check.rising(b + 1, 8));
            noMatch("four from " + b, NONE, plain);
            Counted x = with(four, plain);
            x.pack(0);
            x.empty(Check.PAST);
            x.pack(0);
            Check.same("four from " + b + " in a past that was", x.found(0), 0);
        }
        for (int format = 0; format < 2; format++) {
            Counted x = with(ABCD, Check.join(ABCD, Check.rising(0, 8)));
            x.pack(format);
            Check.same("with a past", x.found(0), 1);
            x.pack(format);
            Check.same("with a past, again", x.found(0), 1);
            x.empty(Check.PAST);
            x.pack(format);
            Check.same("nothing is known of the past that was", x.found(0), 0);
            Check.fill(x, Check.PLAIN, Check.join(Check.repeat(A, 30), ABCD, Check.rising(0, 8)));
            x.pack(format);
            Check.fill(x, Check.PLAIN, Check.join(Check.repeat(A, 4), Check.rising(0, 8)));
            x.pack(format);
            Check.same("nothing is known of the plain row that was", x.found(0), 0);
        }
    }

    private static void hashOfAPlace() {
        Check.sentence("Terms, TO PACK: the four bytes there as an int, times -1640531535, >>> 27");
        int[] last = Check.rising(50, 8);
        // With bytes above 127 the int is below 0: 130 200 210 220 and 151 200 210 220 have slot 19 both, 131 .. has 7.
        int[] four = {130, 200, 210, 220};
        noMatch("taken by another", four, Check.join(Check.bytes(151, 200, 210, 220, 1), four, last));
        due("not taken", four, Check.join(Check.bytes(131, 200, 210, 220, 1), four, last), 0,
            Check.join(Check.bytes(0x50, 131, 200, 210, 220, 1, 9, 0, 0x80), last), 1, 4);
        // The product of 0 0 0 8 has nothing but 0 below the slot, 17; 18 'bcd' has slot 17 too. A factor of the other
        // sign turns the slots round, but for this four it does so by one place less: then they would be apart.
        int[] alone = {0, 0, 0, 8};
        noMatch("taken by another, the factor's sign", alone, Check.join(Check.bytes(18, 'b', 'c', 'd', 1), alone, last));
        due("not taken, the factor's sign", alone, Check.join(ABCD, Check.bytes(1), alone, last), 0,
            Check.join(Check.bytes(0x50), ABCD, Check.bytes(1, 9, 0, 0x80), last), 1, 4);
        due("255 four times", Check.repeat(255, 4), Check.join(Check.repeat(255, 4), Check.rising(0, 8)), 0,
            Check.join(Check.bytes(0x00, 4, 0, 0x80), Check.rising(0, 8)), 1, 4);
        due("128 last", Check.bytes(0, 0, 0, 128), Check.join(Check.bytes(0, 0, 0, 128), Check.rising(1, 8)), 0,
            Check.join(Check.bytes(0x00, 4, 0, 0x80), Check.rising(1, 8)), 1, 4);
    }

    private static void fourBytesInThePast() {
        Check.sentence("Terms, TO PACK: for each place of the past at which four bytes stand in the past");
        int[] twelve = Check.repeat(A, 12);
        noMatch("a past of three", Check.repeat(A, 3), twelve);
        due("a past of four", Check.repeat(A, 4), twelve, 0,
            Check.join(Check.bytes(0x03, 4, 0, 0x50), Check.repeat(A, 5)), 1, 7);
        // 'abcd' stands across the border: three bytes in the past, the fourth in the plain row.
        noMatch("across the border", Check.text("abc"), Check.join(Check.text("d12"), ABCD, Check.rising(0, 8)));
        int[] past = Check.join(Check.repeat(0, 60), ABCD);
        due("the last four of a full past", past, Check.join(ABCD, Check.rising(1, 8)), 0,
            Check.join(Check.bytes(0x00, 4, 0, 0x80), Check.rising(1, 8)), 1, 4);
        int[] other = Check.join(ABCD, Check.repeat(0, 60));
        due("the first four of a full past", other, Check.join(ABCD, Check.rising(1, 8)), 0,
            Check.join(Check.bytes(0x00, 64, 0, 0x80), Check.rising(1, 8)), 1, 4);
    }

    private static void pastFrom0On() {
        Check.sentence("Terms, TO PACK: from 0 on: the table at its hash becomes the place");
        int[] past = Check.join(ABCD, Check.bytes(1), ABCD, Check.bytes(2));
        due("the later of two places", past, Check.join(ABCD, Check.rising(50, 12)), 0,
            Check.join(Check.bytes(0x00, 5, 0, 0xC0), Check.rising(50, 12)), 1, 4);
        // 'vwxy' and 'wxyz' have slot 13 both: in the past the second one takes it from the first.
        noMatch("taken by another", Check.text("vwxyz"), Check.join(Check.text("vwxy"), Check.rising(200, 8)));
    }

    private static void plainFrom0On() {
        Check.sentence("Terms, TO PACK: Then from place 0 of the plain row on, the ANCHOR being 0");
        int[] plain = Check.join(ABCD, Check.rising(0, 8));
        due("a match at place 0, format 0", ABCD, plain, 0,
            Check.join(Check.bytes(0x00, 4, 0, 0x80), Check.rising(0, 8)), 1, 4);
        due("a match at place 0, format 1", ABCD, plain, 1,
            Check.join(Check.bytes(12, 0x01, 4, 28), Check.rising(0, 8)), 1, 4);
        due("a match back to place 0", NONE, Check.join(ABCD, ABCD, Check.rising(0, 8)), 0,
            Check.join(Check.bytes(0x40), ABCD, Check.bytes(4, 0, 0x80), Check.rising(0, 8)), 1, 4);
        Counted x = with(NONE, Check.repeat(A, 13));
        for (int turn = 0; turn < 3; turn++) {
            x.pack(0);
            Check.holds("format 0, turn " + turn, x, Check.PACKED,
                Check.join(Check.bytes(0x13, A, 1, 0, 0x50), Check.repeat(A, 5)));
            x.pack(1);
            Check.holds("format 1, turn " + turn, x, Check.PACKED,
                Check.join(Check.bytes(13, 0, A, 13, 1, 16), Check.repeat(A, 5)));
        }
    }

    private static void atLeast12Bytes() {
        Check.sentence("Terms, TO PACK: at a place with at least 12 bytes from there to the end; with fewer the last literals");
        noMatch("11 at place 0", ABCD, Check.join(ABCD, Check.rising(0, 7)));
        due("12 at place 0", ABCD, Check.join(ABCD, Check.rising(0, 8)), 0,
            Check.join(Check.bytes(0x00, 4, 0, 0x80), Check.rising(0, 8)), 1, 4);
        int[] first = Check.rising(200, 7);
        noMatch("11 at a later place", ABCD, Check.join(first, ABCD, Check.rising(0, 7)));
        due("12 at a later place", ABCD, Check.join(first, ABCD, Check.rising(0, 8)), 0,
            Check.join(Check.bytes(0x70), first, Check.bytes(11, 0, 0x80), Check.rising(0, 8)), 1, 4);
        // Behind the first match there are 11 bytes, then 12.
        due("11 behind a match", ABCD, Check.join(ABCD, ABCD, Check.rising(0, 7)), 0,
            Check.join(Check.bytes(0x04, 4, 0, 0x70), Check.rising(0, 7)), 1, 8);
        int[] two = Check.join(ABCD, Check.bytes(1), ABCD);
        due("11 behind a match and a literal", ABCD, Check.join(two, Check.rising(20, 7)), 0,
            Check.join(Check.bytes(0x00, 4, 0, 0xC0, 1), ABCD, Check.rising(20, 7)), 1, 4);
        due("12 behind a match and a literal", ABCD, Check.join(two, Check.rising(20, 8)), 0,
            Check.join(Check.bytes(0x00, 4, 0, 0x10, 1, 5, 0, 0x80), Check.rising(20, 8)), 2, 8);
    }

    private static void becomesThisPlace() {
        Check.sentence("Terms, TO PACK: c is what the table has at its hash, which becomes this place then");
        int[] past = Check.join(ABCD, Check.bytes(1), ABCD, Check.bytes(2));
        int[] plain = Check.join(ABCD, Check.bytes(3), ABCD, Check.rising(50, 12));
        due("the place of a match", past, plain, 0,
            Check.join(Check.bytes(0x00, 5, 0, 0x10, 3, 5, 0, 0xC0), Check.rising(50, 12)), 2, 8);
        // 'vwxy' takes slot 13 from the past's 'wxyz' and loses it to the plain row's, which is found then.
        int[] last = Check.rising(200, 12);
        int[] words = Check.join(Check.text("vwxyz"), Check.bytes(1), Check.text("wxyz"), last);
        due("a place that was no match", Check.text("vwxyz"), words, 0,
            Check.join(Check.bytes(0x60), Check.text("vwxyz"), Check.bytes(1, 5, 0, 0xC0), last), 1, 4);
    }

    private static void fourTheSame() {
        Check.sentence("Terms, TO PACK: If there is a c, and the four bytes there and here are the same, it is a MATCH");
        noMatch("three the same", ABCD, Check.join(Check.text("abcx"), Check.rising(0, 8)));
        // All these have slot 19, as 'cbcd' has: one of the four bytes is another one.
        noMatch("another first byte", Check.text("cbcd"), Check.join(Check.text("xbcd"), Check.rising(0, 8)));
        int[][] slot19 = {{99, 38, 99, 100}, {99, 98, 59, 100}, {99, 98, 99, 32}};
        for (int[] four : slot19) {
            noMatch("another byte", Check.text("cbcd"), Check.join(four, Check.rising(0, 8)));
        }
        due("the four", Check.text("cbcd"), Check.join(Check.text("cbcd"), Check.rising(0, 8)), 0,
            Check.join(Check.bytes(0x00, 4, 0, 0x80), Check.rising(0, 8)), 1, 4);
    }

    private static void oneByOne() {
        Check.sentence("Terms, TO PACK: its length is how many bytes are the same from there and here on (one by one)");
        for (int length = 4; length <= 11; length++) {
            int[] plain = Check.join(Check.repeat(A, length), Check.rising(0, 12));
            due("a match of " + length + ", over the border", Check.repeat(A, 4), plain, 0,
                Check.join(Check.bytes(length - 4, 4, 0, 0xC0), Check.rising(0, 12)), 1, length);
        }
        int[] last = Check.rising(1, 12);
        due("from the past into the plain row and on", Check.text("wxyz"),
            Check.join(Check.text("wxyzwxyzwxyzwx"), last), 0,
            Check.join(Check.bytes(0x0A, 4, 0, 0xC0), last), 1, 14);
    }

    private static void notIntoTheLast5() {
        Check.sentence("Terms, TO PACK: but not into the last 5 bytes of the plain row");
        int[] five = Check.repeat(A, 5);
        due("all the same, format 0", NONE, Check.repeat(A, 13), 0,
            Check.join(Check.bytes(0x13, A, 1, 0, 0x50), five), 1, 7);
        due("all the same, format 1", NONE, Check.repeat(A, 13), 1,
            Check.join(Check.bytes(13, 0, A, 13, 1, 16), five), 1, 7);
        for (int other = 4; other < 12; other++) {
            int[] plain = Check.repeat(A, 12);
            plain[other] = 'b';
            int length = Math.min(other, 7);
            int[] rest = java.util.Arrays.copyOfRange(plain, length, 12);
            due("another byte at " + other + " of 12", Check.repeat(A, 4), plain, 0,
                Check.join(Check.bytes(length - 4, 4, 0, rest.length << 4), rest), 1, length);
        }
        due("a full plain row", Check.repeat(A, 64), Check.repeat(A, 160), 0,
            Check.join(Check.bytes(0x0F, 4, 0, 155 - 19, 0x50), five), 1, 155);
    }

    private static void behindTheMatch() {
        Check.sentence("Terms, TO PACK: the anchor and the place are the byte behind the match");
        int[] plain = Check.join(Check.repeat(7, 12), Check.repeat(9, 12), Check.rising(20, 12));
        due("two matches, format 0", NONE, plain, 0, Check.join(
            Check.bytes(0x17, 7, 1, 0, 0x17, 9, 1, 0, 0xC0), Check.rising(20, 12)), 2, 22);
        due("two matches, format 1", NONE, plain, 1, Check.join(
            Check.bytes(36, 0, 7, 29, 1, 0, 9, 29, 1, 44), Check.rising(20, 12)), 2, 22);
        // The five places of this past have five slots of the table, so none is lost.
        int[] past = Check.text("pearfigs");
        int[] apart = Check.join(Check.text("figspear"), Check.rising(20, 12));
        due("no literals between matches, format 0", past, apart, 0,
            Check.join(Check.bytes(0x00, 4, 0, 0x00, 12, 0, 0xC0), Check.rising(20, 12)), 2, 8);
        due("no literals between matches, format 1", past, apart, 1,
            Check.join(Check.bytes(20, 0x01, 4, 0x01, 12, 44), Check.rising(20, 12)), 2, 8);
        // 'nopq' at place 1 of the plain row lies inside the first match, so the past's place stands.
        int[] inside = Check.join(Check.text("mnopq"), Check.bytes(1), Check.text("nopq"), Check.rising(50, 12));
        due("places inside a match are not in the table", Check.text("mnopq"), inside, 0,
            Check.join(Check.bytes(0x01, 5, 0, 0x10, 1, 10, 0, 0xC0), Check.rising(50, 12)), 2, 9);
        // The same with the last, the last but one and the last but two place of a match.
        insideAMatch("oxks", "mvgnaqho", "xks");
        insideAMatch("utzb", "xhsdkaut", "zb");
        insideAMatch("pout", "escidpou", "t");
    }

    private static void insideAMatch(String four, String word, String next) {
        int[] past = Check.join(Check.text(four), Check.text(word));
        int[] last = Check.rising(50, 12);
        int[] rest = Check.join(Check.text(next), Check.bytes(1));
        int[] plain = Check.join(Check.text(word), rest, Check.text(four), last);
        int back = past.length + plain.length - 16;
        due("'" + four + "' begins inside the match", past, plain, 0, Check.join(Check.bytes(0x04, 8, 0, rest.length << 4),
            rest, Check.bytes(back, 0, 0xC0), last), 2, 12);
    }

    private static void lastLiterals() {
        Check.sentence("Terms, TO PACK: the last literals are written (format 0: always; format 1: if there are some)");
        due("none, format 0", NONE, NONE, 0, Check.bytes(0), 0, 0);
        due("none, format 1: the size alone", NONE, NONE, 1, Check.bytes(0), 0, 0);
        due("none behind a past, format 0", Check.repeat(A, 64), NONE, 0, Check.bytes(0), 0, 0);
        due("none behind a past, format 1", Check.repeat(A, 64), NONE, 1, Check.bytes(0), 0, 0);
        due("one, format 0", Check.repeat(A, 64), Check.bytes(A), 0, Check.bytes(0x10, A), 0, 0);
        due("one, format 1", Check.repeat(A, 64), Check.bytes(A), 1, Check.bytes(1, 0, A), 0, 0);
        due("five, the fewest behind a match, format 0", Check.repeat(A, 4), Check.repeat(A, 12), 0,
            Check.join(Check.bytes(0x03, 4, 0, 0x50), Check.repeat(A, 5)), 1, 7);
        due("five, the fewest behind a match, format 1", Check.repeat(A, 4), Check.repeat(A, 12), 1,
            Check.join(Check.bytes(12, 0x0D, 4, 16), Check.repeat(A, 5)), 1, 7);
    }

    private static void literals1() {
        Check.sentence("Terms, TO PACK: Format 1 writes literals with n as few bytes as can be");
        for (int n = 1; n <= 160; n++) {
            int[] plain = Check.rising(90, n);
            int[] size = n < 128 ? Check.bytes(n) : Check.bytes(n, 1);
            int[] head = n <= 60 ? Check.bytes((n - 1) << 2) : Check.bytes(240, n - 1);
            due(n + " literals", NONE, plain, 1, Check.join(size, head, plain), 0, 0);
        }
        // None before a match is no element at all.
        due("none before a match", ABCD, Check.join(ABCD, Check.rising(0, 8)), 1,
            Check.join(Check.bytes(12, 0x01, 4, 28), Check.rising(0, 8)), 1, 4);
    }

    private static void copies(int length, int... elements) {
        int n = length + 6;
        int[] size = n < 128 ? Check.bytes(n) : Check.bytes(n, 1);
        due("a match of " + length, NONE, Check.repeat(A, n), 1,
            Check.join(size, Check.bytes(0, A), elements, Check.bytes(16), Check.repeat(A, 5)), 1, length);
    }

    private static void upTo11() {
        Check.sentence("Terms, TO PACK: a match of a length up to 11 with a distance below 2048 as kind 1; others as kind 2");
        for (int length = 4; length <= 6; length++) {
            int[] last = Check.rising(0, 12 - length);
            due("a match of " + length, Check.repeat(A, 4), Check.join(Check.repeat(A, length), last), 1,
                Check.join(Check.bytes(12, (length - 4) << 2 | 1, 4, (last.length - 1) << 2), last), 1, length);
        }
        copies(7, 13, 1);
        copies(10, 25, 1);
        copies(11, 29, 1);
        copies(12, 46, 1, 0);
        copies(13, 50, 1, 0);
    }

    private static void longMatches1() {
        Check.sentence("Terms, TO PACK: 64 bytes at a time as long as at least 68 are left, then 60 if more than 64 are left, then what is left");
        copies(63, 250, 1, 0);
        copies(64, 254, 1, 0);
        copies(65, 238, 1, 0, 5, 1);
        copies(66, 238, 1, 0, 9, 1);
        copies(67, 238, 1, 0, 13, 1);
        copies(68, 254, 1, 0, 1, 1);
        copies(75, 254, 1, 0, 29, 1);
        copies(76, 254, 1, 0, 46, 1, 0);
        copies(127, 254, 1, 0, 250, 1, 0);
        copies(128, 254, 1, 0, 254, 1, 0);
        copies(129, 254, 1, 0, 238, 1, 0, 5, 1);
        copies(131, 254, 1, 0, 238, 1, 0, 13, 1);
        copies(132, 254, 1, 0, 254, 1, 0, 1, 1);
        copies(139, 254, 1, 0, 254, 1, 0, 29, 1);
        copies(140, 254, 1, 0, 254, 1, 0, 46, 1, 0);
        copies(154, 254, 1, 0, 254, 1, 0, 102, 1, 0);
    }

    private static void distances1() {
        Check.sentence("Terms, TO PACK: (as kind 1 if that is 4 to 11 and the distance below 2048): 212 is the farthest there can be");
        // A run of zeros has one slot and is one match, so the past's first four bytes stand in the table to the end.
        int[] past = Check.join(Check.text("wxyz"), Check.repeat(0, 60));
        int[] plain = Check.join(Check.repeat(0, 148), Check.text("wxyz"), Check.rising(100, 8));
        due("212 back, format 0", past, plain, 0, Check.join(
            Check.bytes(0x0F, 4, 0, 148 - 19, 0x00, 212, 0, 0x80), Check.rising(100, 8)), 2, 152);
        due("212 back, format 1", past, plain, 1, Check.join(
            Check.bytes(160, 1, 254, 4, 0, 254, 4, 0, 78, 4, 0, 1, 212, 28), Check.rising(100, 8)), 2, 152);
        int[] word = Check.text("quickbrownfx");
        due("207 back as kind 2", Check.join(word, Check.repeat(0, 52)),
            Check.join(Check.repeat(0, 143), word, Check.rising(1, 5)), 1, Check.join(
            Check.bytes(160, 1, 254, 4, 0, 254, 4, 0, 58, 4, 0, 46, 207, 0, 16), Check.rising(1, 5)), 2, 155);
    }
}
