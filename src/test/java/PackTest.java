/** Promises 4 (pack) and 8 (found), with bytes worked out by hand from the document. */
public final class PackTest {
    private static final int A = 'a';

    public static void main(String[] args) {
        wrongArguments();
        nothingToPack();
        tooShortForAMatch();
        shortestMatch();
        matchStopsBeforeTheLastFive();
        literalSumsOfFormat0();
        matchSumsOfFormat0();
        literalsOfFormat1();
        sizeOfFormat1();
        matchesOfFormat1();
        matchBehindMatch();
        pastIsLookedAt();
        pastOfThreeBytesIsNotInTheTable();
        latestPlaceStands();
        placesInsideAMatchAreNotInTheTable();
        sameHashIsNoMatch();
        packReplacesThePackedRowAlone();
        packsOneAfterAnother();
        foundIsOfTheLatestPack();
        everythingIsReadAgain();
        Check.finish();
    }

    private static void due(String what, int[] past, int[] plain, int format, int[] packed, int matches, int copied) {
        PressSuite x = new PressSuite();
        Check.fill(x, Check.PAST, past);
        Check.fill(x, Check.PLAIN, plain);
        Check.same(what + ", pack", x.pack(format), packed.length);
        Check.holds(what, x, Check.PACKED, packed);
        Check.same(what + ", found(0)", x.found(0), matches);
        Check.same(what + ", found(1)", x.found(1), copied);
    }

    private static void wrongArguments() {
        PressSuite x = new PressSuite();
        Check.fill(x, Check.PLAIN, Check.repeat(A, 30));
        Check.fill(x, Check.PACKED, 1, 2, 3);
        for (int format : new int[] {-1, 2, 3, Integer.MIN_VALUE, Integer.MAX_VALUE}) {
            Check.refusesArgument("pack " + format, () -> x.pack(format));
            Check.refusesArgument("found " + format, () -> x.found(format));
        }
        Check.holds("after refused packs", x, Check.PACKED, 1, 2, 3);
        Check.same("found(0) after refused packs", x.found(0), 0);
        Check.same("found(1) after refused packs", x.found(1), 0);
    }

    private static void nothingToPack() {
        due("nothing, format 0", Check.bytes(), Check.bytes(), 0, Check.bytes(0), 0, 0);
        due("nothing, format 1", Check.bytes(), Check.bytes(), 1, Check.bytes(0), 0, 0);
        due("nothing, with a past", Check.repeat(A, 64), Check.bytes(), 0, Check.bytes(0), 0, 0);
    }

    private static void tooShortForAMatch() {
        int[] eleven = Check.repeat(A, 11);
        int[] twelve = Check.repeat(A, 12);
        due("11 with a past", eleven, eleven, 0, Check.join(Check.bytes(0xB0), eleven), 0, 0);
        due("11 with a past", eleven, eleven, 1, Check.join(Check.bytes(11, 40), eleven), 0, 0);
        due("12 without a past", Check.bytes(), twelve, 0, Check.join(Check.bytes(0xC0), twelve), 0, 0);
        due("12 without a past", Check.bytes(), twelve, 1, Check.join(Check.bytes(12, 44), twelve), 0, 0);
    }

    private static void shortestMatch() {
        int[] plain = Check.join(Check.text("abcd"), Check.rising(0, 8));
        due("a match of 4, format 0", Check.text("abcd"), plain, 0,
            Check.join(Check.bytes(0x00, 4, 0, 0x80), Check.rising(0, 8)), 1, 4);
        due("a match of 4, format 1", Check.text("abcd"), plain, 1,
            Check.join(Check.bytes(12, 0x01, 4, 28), Check.rising(0, 8)), 1, 4);
        int[] three = Check.join(Check.text("abcx"), Check.rising(0, 8));
        due("three the same are no match", Check.text("abcd"), three, 0,
            Check.join(Check.bytes(0xC0), three), 0, 0);
    }

    private static void matchStopsBeforeTheLastFive() {
        int[] five = Check.repeat(A, 5);
        due("13 the same, format 0", Check.bytes(), Check.repeat(A, 13), 0,
            Check.join(Check.bytes(0x13, A, 1, 0, 0x50), five), 1, 7);
        due("13 the same, format 1", Check.bytes(), Check.repeat(A, 13), 1,
            Check.join(Check.bytes(13, 0, A, 13, 1, 16), five), 1, 7);
        due("12 the same behind a past", Check.repeat(A, 4), Check.repeat(A, 12), 0,
            Check.join(Check.bytes(0x03, 4, 0, 0x50), five), 1, 7);
    }

    private static void literalSumsOfFormat0() {
        for (int n = 0; n <= 160; n++) {
            int[] plain = Check.rising(3, n);
            int[] head = n < 15 ? Check.bytes(n << 4) : Check.bytes(0xF0, n - 15);
            due(n + " literals", Check.bytes(), plain, 0, Check.join(head, plain), 0, 0);
        }
    }

    private static void matchSumsOfFormat0() {
        for (int length = 7; length <= 154; length++) {
            int[] sum = length < 19 ? Check.bytes() : Check.bytes(length - 19);
            int[] packed = Check.join(Check.bytes(0x10 | Math.min(15, length - 4), A, 1, 0), sum,
                Check.bytes(0x50), Check.repeat(A, 5));
            due("a match of " + length, Check.bytes(), Check.repeat(A, length + 6), 0, packed, 1, length);
        }
    }

    private static void literalsOfFormat1() {
        for (int n = 1; n <= 160; n++) {
            int[] plain = Check.rising(90, n);
            int[] size = n < 128 ? Check.bytes(n) : Check.bytes(n, 1);
            int[] head = n <= 60 ? Check.bytes((n - 1) << 2) : Check.bytes(240, n - 1);
            due(n + " literals", Check.bytes(), plain, 1, Check.join(size, head, plain), 0, 0);
        }
    }

    private static void sizeOfFormat1() {
        PressSuite x = new PressSuite();
        Check.fill(x, Check.PLAIN, Check.rising(0, 127));
        x.pack(1);
        Check.same("size 127", x.get(1, 0), 127);
        x.put(Check.PLAIN, 127, 1);
        x.pack(1);
        Check.same("size 128, first byte", x.get(1, 0), 128);
        Check.same("size 128, second byte", x.get(1, 1), 1);
    }

    private static void copies(int length, int... elements) {
        int n = length + 6;
        int[] size = n < 128 ? Check.bytes(n) : Check.bytes(n, 1);
        due("a match of " + length, Check.bytes(), Check.repeat(A, n), 1,
            Check.join(size, Check.bytes(0, A), elements, Check.bytes(16), Check.repeat(A, 5)), 1, length);
    }

    private static void matchesOfFormat1() {
        copies(8, 17, 1);
        copies(11, 29, 1);
        copies(12, 46, 1, 0);
        copies(63, 250, 1, 0);
        copies(64, 254, 1, 0);
        copies(65, 238, 1, 0, 5, 1);
        copies(66, 238, 1, 0, 9, 1);
        copies(67, 238, 1, 0, 13, 1);
        copies(68, 254, 1, 0, 1, 1);
        copies(75, 254, 1, 0, 29, 1);
        copies(76, 254, 1, 0, 46, 1, 0);
        copies(128, 254, 1, 0, 254, 1, 0);
        copies(129, 254, 1, 0, 238, 1, 0, 5, 1);
        copies(131, 254, 1, 0, 238, 1, 0, 13, 1);
        copies(132, 254, 1, 0, 254, 1, 0, 1, 1);
        copies(154, 254, 1, 0, 254, 1, 0, 102, 1, 0);
    }

    private static void matchBehindMatch() {
        int[] plain = Check.join(Check.repeat(7, 12), Check.repeat(9, 12), Check.rising(20, 12));
        due("two matches, format 0", Check.bytes(), plain, 0, Check.join(
            Check.bytes(0x17, 7, 1, 0, 0x17, 9, 1, 0, 0xC0), Check.rising(20, 12)), 2, 22);
        due("two matches, format 1", Check.bytes(), plain, 1, Check.join(
            Check.bytes(36, 0, 7, 29, 1, 0, 9, 29, 1, 44), Check.rising(20, 12)), 2, 22);
        // The five places of this past have five slots of the table, so none is lost.
        int[] past = Check.text("pearfigs");
        int[] together = Check.join(Check.text("pearfigs"), Check.rising(20, 12));
        due("no literals before the match, format 1", past, together, 1,
            Check.join(Check.bytes(20, 0x11, 8, 44), Check.rising(20, 12)), 1, 8);
        int[] apart = Check.join(Check.text("figspear"), Check.rising(20, 12));
        due("no literals between matches, format 0", past, apart, 0,
            Check.join(Check.bytes(0x00, 4, 0, 0x00, 12, 0, 0xC0), Check.rising(20, 12)), 2, 8);
        due("no literals between matches, format 1", past, apart, 1,
            Check.join(Check.bytes(20, 0x01, 4, 0x01, 12, 44), Check.rising(20, 12)), 2, 8);
    }

    private static void pastIsLookedAt() {
        int[] last = Check.rising(1, 12);
        due("a match runs from the past into the plain row", Check.text("wxyz"),
            Check.join(Check.text("wxyzwxyzwxyzwx"), last), 0,
            Check.join(Check.bytes(0x0A, 4, 0, 0xC0), last), 1, 14);
        int[] past = Check.join(Check.text("wxyz"), Check.repeat(0, 60));
        int[] plain = Check.join(Check.repeat(0, 143), Check.text("wxyz"), Check.rising(100, 13));
        PressSuite x = new PressSuite();
        Check.fill(x, Check.PAST, past);
        Check.fill(x, Check.PLAIN, plain);
        x.pack(0);
        Check.same("a long way back: matches", x.found(0), 2);
        Check.same("a long way back: copied", x.found(1), 147);
        Check.holds("a long way back", x, Check.PACKED, Check.join(
            Check.bytes(0x0F, 4, 0, 124, 0x00, 207, 0, 0xD0), Check.rising(100, 13)));
    }

    private static void pastOfThreeBytesIsNotInTheTable() {
        int[] plain = Check.repeat(A, 12);
        due("a past of three", Check.repeat(A, 3), plain, 0, Check.join(Check.bytes(0xC0), plain), 0, 0);
        due("a past of four", Check.repeat(A, 4), plain, 0,
            Check.join(Check.bytes(0x03, 4, 0, 0x50), Check.repeat(A, 5)), 1, 7);
        int[] across = Check.join(Check.text("bcde"), Check.rising(0, 12));
        due("the last three places of the past stand in no table", Check.text("abc"),
            Check.join(Check.text("d"), across), 0,
            Check.join(Check.bytes(0xF0, 2, 'd'), across), 0, 0);
    }

    private static void latestPlaceStands() {
        int[] past = Check.join(Check.text("abcd"), Check.bytes(1), Check.text("abcd"), Check.bytes(2));
        due("the nearer place of the past", past, Check.join(Check.text("abcd"), Check.rising(50, 12)), 0,
            Check.join(Check.bytes(0x00, 5, 0, 0xC0), Check.rising(50, 12)), 1, 4);
        int[] plain = Check.join(Check.text("abcd"), Check.bytes(3), Check.text("abcd"), Check.rising(50, 12));
        due("the place of an earlier match", past, plain, 0,
            Check.join(Check.bytes(0x00, 5, 0, 0x10, 3, 5, 0, 0xC0), Check.rising(50, 12)), 2, 8);
    }

    private static void placesInsideAMatchAreNotInTheTable() {
        // 'nopq' at place 1 of the plain row lies inside the first match, so the past's place stands.
        int[] past = Check.text("mnopq");
        int[] plain = Check.join(Check.text("mnopq"), Check.bytes(1), Check.text("nopq"), Check.rising(50, 12));
        due("places inside a match", past, plain, 0,
            Check.join(Check.bytes(0x01, 5, 0, 0x10, 1, 10, 0, 0xC0), Check.rising(50, 12)), 2, 9);
    }

    private static int tableHash(int first) {
        return ((first | 0x00030200) * -1640531535) >>> 27;
    }

    private static void sameHashIsNoMatch() {
        // Two first bytes whose fours (b, 2, 3, 0) share a slot: the later takes it from the earlier.
        int one = 100;
        int other = one + 1;
        while (tableHash(other) != tableHash(one)) {
            other++;
        }
        int[] last = Check.rising(200, 12);
        int[] plain = Check.join(Check.bytes(one, 2, 3, 0), last);
        due("another four with the same hash", Check.bytes(other, 2, 3, 0), plain, 0,
            Check.join(Check.bytes(0xF0, 1), plain), 0, 0);
        due("the four itself", Check.bytes(one, 2, 3, 0), plain, 0,
            Check.join(Check.bytes(0x00, 4, 0, 0xC0), last), 1, 4);
        // 'vwxy' and 'wxyz' share slot 13: each takes it from the other, in the past and in the plain row.
        int[] words = Check.join(Check.text("vwxyz"), Check.bytes(1), Check.text("wxyz"), last);
        due("a place that was lost", Check.text("vwxyz"), words, 0,
            Check.join(Check.bytes(0x60), Check.text("vwxyz"), Check.bytes(1, 5, 0, 0xC0), last), 1, 4);
    }

    private static void packReplacesThePackedRowAlone() {
        for (int format = 0; format < 2; format++) {
            PressSuite x = new PressSuite();
            int[] past = Check.rising(10, 64);
            int[] plain = Check.rising(40, 100);
            Check.fill(x, Check.PAST, past);
            Check.fill(x, Check.PLAIN, plain);
            Check.fill(x, Check.PACKED, Check.repeat(200, 200));
            int count = x.pack(format);
            Check.same("packed anew", x.size(1), count);
            Check.same("packed small", count < 110 ? 1 : 0, 1);
            Check.same("packed again", x.pack(format), count);
            Check.same("the past's size", x.size(Check.PAST), 64);
            Check.holds("the past after pack", x, Check.PAST, past);
            Check.holds("the plain row after pack", x, Check.PLAIN, plain);
        }
    }

    private static void packsOneAfterAnother() {
        PressSuite x = new PressSuite();
        int[] five = Check.repeat(A, 5);
        int[] format0 = Check.join(Check.bytes(0x13, A, 1, 0, 0x50), five);
        int[] format1 = Check.join(Check.bytes(13, 0, A, 13, 1, 16), five);
        Check.fill(x, Check.PLAIN, Check.repeat(A, 13));
        for (int turn = 0; turn < 3; turn++) {
            x.pack(0);
            Check.holds("format 0, turn " + turn, x, Check.PACKED, format0);
            x.pack(1);
            Check.holds("format 1, turn " + turn, x, Check.PACKED, format1);
            Check.same("matches, turn " + turn, x.found(0), 1);
            Check.same("copied, turn " + turn, x.found(1), 7);
        }
        int[] other = Check.join(Check.repeat(A, 4), Check.rising(0, 8));
        Check.fill(x, Check.PLAIN, other);
        x.pack(0);
        Check.holds("nothing is known of an earlier plain row", x, Check.PACKED, Check.join(Check.bytes(0xC0), other));
    }

    private static void foundIsOfTheLatestPack() {
        PressSuite x = new PressSuite();
        Check.fill(x, Check.PLAIN, Check.repeat(A, 160));
        Check.same("found before", x.found(0) + x.found(1), 0);
        x.pack(1);
        Check.same("one match in three elements", x.found(0), 1);
        Check.same("copied", x.found(1), 154);
        Check.refusesArgument("pack 2", () -> x.pack(2));
        x.unpack(1);
        x.empty(0);
        x.empty(1);
        x.unpack(0);
        Check.same("matches stand", x.found(0), 1);
        Check.same("copied stands", x.found(1), 154);
        x.pack(0);
        Check.same("matches of nothing", x.found(0), 0);
        Check.same("copied of nothing", x.found(1), 0);
    }

    private static void everythingIsReadAgain() {
        for (int format = 0; format < 2; format++) {
            for (int n = 0; n <= 160; n++) {
                PressSuite x = new PressSuite();
                int[] plain = new int[n];
                for (int i = 0; i < n; i++) {
                    plain[i] = i * i / 7 % 5;
                }
                Check.fill(x, Check.PAST, Check.rising(0, n % 65));
                Check.fill(x, Check.PLAIN, plain);
                int count = x.pack(format);
                x.empty(Check.PLAIN);
                Check.same("read again", x.unpack(format), n);
                Check.holds("read again", x, Check.PLAIN, plain);
                Check.same("the packed row after unpack", x.size(Check.PACKED), count);
            }
        }
    }
}
