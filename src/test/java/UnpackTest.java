/** Promise 5 (unpack) and what 'Terms' says of reading: each place of refusal, and what just is not refused there. */
public final class UnpackTest {
    private static final int[] NO_PAST = {};
    private static final int[] FULL_PAST = Check.rising(0, 64);
    private static final int[] BEFORE = {77, 78, 79};

    public static void main(String[] args) {
        Check.run(
            UnpackTest::wrongFormat,
            UnpackTest::howManyBytes,
            UnpackTest::minusOneMinusThePlace,
            UnpackTest::nothingChanges,
            UnpackTest::readsAfterRefusals,
            UnpackTest::theRowsSize,
            UnpackTest::historyOfAReader,
            UnpackTest::literalSum0,
            UnpackTest::copySum0,
            UnpackTest::oneByOne0,
            UnpackTest::rowEndsHere0,
            UnpackTest::endsWithLiterals0,
            UnpackTest::lowestFirst0,
            UnpackTest::noT0,
            UnpackTest::noByteOfL0,
            UnpackTest::tooManyLiterals0,
            UnpackTest::noLiteral0,
            UnpackTest::noByteOfTheDistance0,
            UnpackTest::wrongDistance0,
            UnpackTest::noByteOfM0,
            UnpackTest::tooManyCopied0,
            UnpackTest::firstOfThese0,
            UnpackTest::sevenBits1,
            UnpackTest::literals1,
            UnpackTest::shortCopies1,
            UnpackTest::longCopies1,
            UnpackTest::noFirstByte1,
            UnpackTest::noSecondByte1,
            UnpackTest::secondByteAbove127,
            UnpackTest::sizeAbove160,
            UnpackTest::wrongKind1,
            UnpackTest::literalAbove60,
            UnpackTest::noByteBehindT1,
            UnpackTest::wrongDistance1,
            UnpackTest::moreThanTheSize1,
            UnpackTest::noLiteral1,
            UnpackTest::fewerThanTheSize1,
            UnpackTest::firstOfThese1);
        Check.finish();
    }

    private static Counted with(int[] past, int... packed) {
        Counted x = new Counted();
        Check.fill(x, Check.PAST, past);
        Check.fill(x, Check.PACKED, packed);
        Check.fill(x, Check.PLAIN, BEFORE);
        return x;
    }

    private static void reads(String what, int format, int[] past, int[] packed, int... plain) {
        Counted x = with(past, packed);
        Check.same(what + ", unpack", x.unpack(format), plain.length);
        Check.holds(what, x, Check.PLAIN, plain);
        Check.holds(what, x, Check.PACKED, packed);
        Check.holds(what, x, Check.PAST, past);
    }

    private static void malformed(String what, int format, int[] past, int place, int... packed) {
        Counted x = with(past, packed);
        String before = Check.whole(x);
        Check.same(what + ", unpack", x.unpack(format), -1 - place);
        Check.unchanged(what, before, x);
    }

    // Promise 5

    private static void wrongFormat() {
        Check.sentence("Promise 5: IllegalArgumentException when there is no such format");
        Counted good = with(NO_PAST, 0);
        Counted bad = with(NO_PAST, 255);
        for (int format : Check.NOT_0_TO_1) {
            Check.refusesArgument("unpack " + format, good, () -> good.unpack(format));
            Check.refusesArgument("unpack " + format + " of what is malformed", bad, () -> bad.unpack(format));
        }
    }

    private static void howManyBytes() {
        Check.sentence("Promise 5: The plain row becomes what the packed one says: how many bytes");
        reads("none, format 0", 0, FULL_PAST, Check.bytes(0));
        reads("none, format 1", 1, FULL_PAST, Check.bytes(0));
        reads("160, format 0", 0, NO_PAST, Check.join(Check.bytes(0xF0, 145), Check.rising(1, 160)), Check.rising(1, 160));
        reads("160, format 1", 1, NO_PAST, Check.join(Check.bytes(160, 1, 240, 159), Check.rising(1, 160)), Check.rising(1, 160));
        for (int format = 0; format < 2; format++) {
            Counted x = with(Check.bytes(4, 5, 6), format == 0 ? Check.bytes(0x10, 9, 2, 0, 0) : Check.bytes(5, 0, 9, 1, 2));
            Check.fill(x, Check.PLAIN, Check.rising(0, 160));
            for (int turn = 0; turn < 3; turn++) {
                Check.same("unpack", x.unpack(format), 5);
                Check.holds("in place of a full row, and again", x, Check.PLAIN, 9, 6, 9, 6, 9);
            }
            x.put(Check.PLAIN, 1, 1);
            Check.holds("put behind what was read", x, Check.PLAIN, 9, 6, 9, 6, 9, 1);
        }
    }

    private static void minusOneMinusThePlace() {
        Check.sentence("Promise 5: -1 - the place, when it is malformed");
        Check.same("place 0, format 0", with(NO_PAST, 0xF0, 255, 0).unpack(0), -1);
        Check.same("place 1, format 0", with(NO_PAST, 0x00, 0, 0).unpack(0), -2);
        Check.same("place 1, format 1", with(NO_PAST, 1, 3).unpack(1), -2);
        Check.same("place 200, format 0", with(NO_PAST, Check.repeat(255, 200)).unpack(0), -201);
        int[] singles = Check.repeat(0, 200);
        singles[0] = 101;
        Check.same("place 200, format 1", with(NO_PAST, singles).unpack(1), -201);
    }

    private static void nothingChanges() {
        Check.sentence("Promise 5: (then nothing changes)");
        for (int format = 0; format < 2; format++) {
            Counted x = new Counted();
            Check.fill(x, Check.PLAIN, Check.repeat(3, 160));
            x.pack(format);
            Check.fill(x, Check.PAST, FULL_PAST);
            Check.fill(x, Check.PLAIN, Check.rising(9, 159));
            // The fault is the very last thing there: all but one byte has been read by then.
            int[] late = format == 0 ? Check.bytes(0x30, 1, 2) : Check.bytes(4, 8, 1, 2, 3);
            Check.fill(x, Check.PACKED, late);
            String before = Check.whole(x);
            Check.same("a late fault", x.unpack(format), -1 - late.length);
            Check.unchanged("a late fault", before, x);
            Check.same("the same fault again", x.unpack(format), -1 - late.length);
            Check.unchanged("the same fault again", before, x);
        }
    }

    private static void readsAfterRefusals() {
        Check.sentence("Promise 5: what was refused before is nothing to the next reading");
        Counted x = new Counted();
        for (int turn = 0; turn < 2; turn++) {
            x.empty(Check.PACKED);
            Check.same("no row, format 0", x.unpack(0), -1);
            Check.same("no row, format 1", x.unpack(1), -1);
            Check.fill(x, Check.PACKED, 0x30, 1, 2);
            Check.same("no third literal", x.unpack(0), -4);
            Check.fill(x, Check.PACKED, 0x20, 1, 2);
            Check.same("two literals, format 0", x.unpack(0), 2);
            Check.fill(x, Check.PACKED, 3, 4, 7, 8);
            Check.same("fewer than the size", x.unpack(1), -5);
            Check.fill(x, Check.PACKED, 2, 4, 7, 8);
            Check.same("two literals, format 1", x.unpack(1), 2);
            Check.holds("read after refusals", x, Check.PLAIN, 7, 8);
        }
    }

    // Terms, of both formats

    private static void theRowsSize() {
        Check.sentence("Terms, TO UNPACK: (a byte that should be there and is not: the row's size)");
        malformed("an empty row, format 0", 0, FULL_PAST, 0);
        malformed("an empty row, format 1", 1, FULL_PAST, 0);
        malformed("a full row, format 0", 0, NO_PAST, 200, Check.join(Check.bytes(0xF0), Check.repeat(255, 199)));
        // Two literals and 65 copies of one byte fill the packed row; one that says more misses its byte.
        int[] full = Check.bytes(67, 0, 7, 0, 8);
        for (int i = 0; i < 65; i++) {
            full = Check.join(full, Check.bytes(2, 1, 0));
        }
        reads("a full row that is whole, format 1", 1, NO_PAST, full, Check.join(Check.bytes(7), Check.repeat(8, 66)));
        full[0] = 68;
        malformed("a full row that ends too soon, format 1", 1, NO_PAST, 200, full);
        // The row was longer once: what stood behind its end is not there.
        Counted x = with(NO_PAST, Check.repeat(0x10, 200));
        Check.fill(x, Check.PACKED, 0x20, 5);
        Check.same("bytes of a longer row before", x.unpack(0), -3);
    }

    private static void historyOfAReader() {
        Check.sentence("Terms: HISTORY: the past, then the plain row; a DISTANCE counts from 1");
        reads("1 is the byte before", 0, Check.bytes(1, 2), Check.bytes(0x10, 7, 1, 0, 0), 7, 7, 7, 7, 7);
        reads("the past's last byte", 0, Check.bytes(1, 2), Check.bytes(0x10, 7, 2, 0, 0), 7, 2, 7, 2, 7);
        reads("the past's first byte", 0, Check.bytes(1, 2), Check.bytes(0x10, 7, 3, 0, 0), 7, 1, 2, 7, 1);
        reads("out of the past, format 1", 1, Check.bytes(1, 2), Check.bytes(5, 18, 2, 0), 1, 2, 1, 2, 1);
        // The plain row that stood there before the reading is no part of it.
        malformed("the old plain row", 0, NO_PAST, 1, 0x00, 1, 0, 0);
        malformed("the old plain row, format 1", 1, NO_PAST, 1, 4, 1, 1);
    }

    // Terms, FORMAT 0

    private static void literalSum0() {
        Check.sentence("Terms, FORMAT 0: if T >> 4 is 15, bytes that are added to it, up to and with the first that is not 255; L bytes");
        reads("no literals", 0, NO_PAST, Check.bytes(0));
        reads("one literal", 0, NO_PAST, Check.bytes(0x10, 9), 9);
        reads("14 literals", 0, NO_PAST, Check.join(Check.bytes(0xE0), Check.rising(1, 14)), Check.rising(1, 14));
        reads("15 literals", 0, NO_PAST, Check.join(Check.bytes(0xF0, 0), Check.rising(1, 15)), Check.rising(1, 15));
        reads("16 literals", 0, NO_PAST, Check.join(Check.bytes(0xF0, 1), Check.rising(1, 16)), Check.rising(1, 16));
        // 254 ends the sum, so that it is too many; 255 does not, so that the next byte is missed.
        malformed("254 ends the sum", 0, NO_PAST, 0, 0xF0, 254);
        malformed("255 does not", 0, NO_PAST, 2, 0xF0, 255);
        malformed("0 behind 255 ends the sum", 0, NO_PAST, 0, 0xF0, 255, 0);
    }

    private static void copySum0() {
        Check.sentence("Terms, FORMAT 0: M = (T & 15) + 4, and if T & 15 is 15, bytes that are added likewise");
        reads("a copy of 4", 0, NO_PAST, Check.bytes(0x10, 5, 1, 0, 0), Check.repeat(5, 5));
        reads("a copy of 5", 0, NO_PAST, Check.bytes(0x11, 5, 1, 0, 0), Check.repeat(5, 6));
        reads("a copy of 18", 0, NO_PAST, Check.bytes(0x1E, 5, 1, 0, 0), Check.repeat(5, 19));
        reads("a copy of 19", 0, NO_PAST, Check.bytes(0x1F, 5, 1, 0, 0, 0), Check.repeat(5, 20));
        reads("a copy of 20", 0, NO_PAST, Check.bytes(0x1F, 5, 1, 0, 1, 0), Check.repeat(5, 21));
        malformed("254 ends the sum", 0, NO_PAST, 0, 0x1F, 5, 1, 0, 254);
        malformed("255 does not", 0, NO_PAST, 5, 0x1F, 5, 1, 0, 255);
        malformed("0 behind 255 ends the sum", 0, NO_PAST, 0, 0x1F, 5, 1, 0, 255, 0);
    }

    private static void oneByOne0() {
        Check.sentence("Terms, FORMAT 0: M bytes are copied, one by one, each from the distance back");
        reads("a distance of 1", 0, NO_PAST, Check.bytes(0x21, 5, 6, 1, 0, 0), 5, 6, 6, 6, 6, 6, 6);
        reads("a distance below the length", 0, NO_PAST, Check.bytes(0x21, 5, 6, 2, 0, 0x10, 9), 5, 6, 5, 6, 5, 6, 5, 9);
        reads("a distance of the length", 0, NO_PAST, Check.bytes(0x40, 1, 2, 3, 4, 4, 0, 0), 1, 2, 3, 4, 1, 2, 3, 4);
    }

    private static void rowEndsHere0() {
        Check.sentence("Terms, FORMAT 0: then, unless the row ends here: a distance");
        reads("two literals", 0, NO_PAST, Check.bytes(0x20, 5, 6), 5, 6);
        for (int low = 1; low <= 15; low++) {
            reads("the last T's low half is not looked at", 0, NO_PAST, Check.bytes(0x20 | low, 5, 6), 5, 6);
        }
        malformed("one byte more is the first one of a distance", 0, NO_PAST, 4, 0x20, 5, 6, 1);
    }

    private static void endsWithLiterals0() {
        Check.sentence("Terms, FORMAT 0: A row ends with literals (perhaps none)");
        reads("none at all", 0, NO_PAST, Check.bytes(0));
        reads("none behind a copy", 0, NO_PAST, Check.bytes(0x10, 5, 1, 0, 0x00), 5, 5, 5, 5, 5);
        reads("one behind a copy", 0, NO_PAST, Check.bytes(0x10, 5, 1, 0, 0x10, 6), 5, 5, 5, 5, 5, 6);
        reads("none behind a full plain row", 0, NO_PAST, Check.bytes(0x1F, 5, 1, 0, 140, 0x00), Check.repeat(5, 160));
        malformed("a row that ends with a copy", 0, NO_PAST, 4, 0x10, 5, 1, 0);
    }

    private static void lowestFirst0() {
        Check.sentence("Terms, FORMAT 0: a distance of two bytes (the lowest first)");
        reads("3 and 0", 0, NO_PAST, Check.bytes(0x30, 1, 2, 3, 3, 0, 0), 1, 2, 3, 1, 2, 3, 1);
        malformed("0 and 3 is 768", 0, FULL_PAST, 4, 0x30, 1, 2, 3, 0, 3, 0);
        malformed("3 and 1 is 259", 0, FULL_PAST, 4, 0x30, 1, 2, 3, 3, 1, 0);
    }

    // Terms, TO UNPACK format 0

    private static void noT0() {
        Check.sentence("Terms, TO UNPACK 0: no T");
        malformed("an empty row", 0, NO_PAST, 0);
        malformed("behind a copy", 0, NO_PAST, 4, 0x10, 5, 1, 0);
        malformed("behind a copy with a sum", 0, NO_PAST, 5, 0x1F, 5, 1, 0, 0);
        malformed("behind a second copy", 0, NO_PAST, 7, 0x10, 5, 1, 0, 0x00, 1, 0);
        malformed("behind a copy that fills the plain row", 0, NO_PAST, 5, 0x1F, 5, 1, 0, 140);
    }

    private static void noByteOfL0() {
        Check.sentence("Terms, TO UNPACK 0: no byte that L needs");
        malformed("the first", 0, NO_PAST, 1, 0xF0);
        malformed("behind 255", 0, NO_PAST, 2, 0xF0, 255);
        malformed("behind 255 twice", 0, NO_PAST, 3, 0xF0, 255, 255);
        malformed("in a second sequence", 0, NO_PAST, 5, 0x10, 5, 1, 0, 0xF0);
    }

    private static void tooManyLiterals0() {
        Check.sentence("Terms, TO UNPACK 0: a plain row that would have more than 160 bytes with the L literals (at T)");
        reads("160", 0, FULL_PAST, Check.join(Check.bytes(0xF0, 145), Check.rising(1, 160)), Check.rising(1, 160));
        malformed("161", 0, NO_PAST, 0, Check.join(Check.bytes(0xF0, 146), Check.rising(1, 161)));
        reads("160 with the copy before", 0, NO_PAST,
            Check.bytes(0x1F, 5, 1, 0, 139, 0x10, 7), Check.join(Check.repeat(5, 159), Check.bytes(7)));
        malformed("161 with the copy before", 0, NO_PAST, 5, 0x1F, 5, 1, 0, 140, 0x10, 7);
        malformed("161 with the copy before, by 2", 0, NO_PAST, 5, 0x1F, 5, 1, 0, 139, 0x20, 7, 8);
        malformed("as many as a row of 200 can say", 0, NO_PAST, 0,
            Check.join(Check.bytes(0xF0), Check.repeat(255, 198), Check.bytes(254)));
    }

    private static void noLiteral0() {
        Check.sentence("Terms, TO UNPACK 0: a literal that is not there");
        malformed("the only one", 0, NO_PAST, 1, 0x10);
        malformed("the first of 15", 0, NO_PAST, 2, 0xF0, 0);
        malformed("the last", 0, NO_PAST, 3, 0x30, 1, 2);
        malformed("the last of 160", 0, NO_PAST, 161, Check.join(Check.bytes(0xF0, 145), Check.rising(1, 159)));
        malformed("behind a copy", 0, NO_PAST, 6, 0x10, 5, 1, 0, 0x20, 7);
    }

    private static void noByteOfTheDistance0() {
        Check.sentence("Terms, TO UNPACK 0: a byte of the distance that is not there");
        malformed("the second", 0, NO_PAST, 3, 0x10, 5, 1);
        malformed("the second, without literals", 0, FULL_PAST, 2, 0x00, 1);
        malformed("the second, in a second sequence", 0, NO_PAST, 6, 0x10, 5, 1, 0, 0x00, 1);
        malformed("the second, of a distance that would be 0", 0, NO_PAST, 3, 0x10, 5, 0);
        malformed("the second, of a distance that would go beyond", 0, NO_PAST, 3, 0x10, 5, 9);
    }

    private static void wrongDistance0() {
        Check.sentence("Terms, TO UNPACK 0: a distance that is 0 or goes beyond the history's beginning (at its first byte)");
        malformed("0", 0, FULL_PAST, 2, 0x10, 5, 0, 0, 0);
        malformed("0 behind a sum and literals", 0, FULL_PAST, 17, Check.join(Check.bytes(0xF0, 0), Check.rising(1, 15), Check.bytes(0, 0, 0)));
        reads("1 of 1", 0, NO_PAST, Check.bytes(0x10, 5, 1, 0, 0), 5, 5, 5, 5, 5);
        malformed("2 of 1", 0, NO_PAST, 2, 0x10, 5, 2, 0, 0);
        malformed("1 of none", 0, NO_PAST, 1, 0x00, 1, 0, 0);
        reads("64 of 64", 0, FULL_PAST, Check.bytes(0x00, 64, 0, 0), 0, 1, 2, 3);
        malformed("65 of 64", 0, FULL_PAST, 1, 0x00, 65, 0, 0);
        int[] most = Check.join(Check.bytes(0xF0, 141), Check.repeat(8, 156));
        reads("220 of 220", 0, FULL_PAST, Check.join(most, Check.bytes(220, 0, 0)), Check.join(Check.repeat(8, 156), Check.rising(0, 4)));
        malformed("221 of 220", 0, FULL_PAST, 158, Check.join(most, Check.bytes(221, 0, 0)));
        malformed("256", 0, FULL_PAST, 2, 0x10, 5, 0, 1, 0);
        malformed("257", 0, FULL_PAST, 2, 0x10, 5, 1, 1, 0);
        malformed("65535", 0, FULL_PAST, 1, 0x00, 255, 255, 0);
        // What this copy itself would add is not there yet, what the one before added is.
        malformed("6 of 5", 0, NO_PAST, 5, 0x10, 5, 1, 0, 0x00, 6, 0, 0);
        reads("5 of 5", 0, NO_PAST, Check.bytes(0x10, 5, 1, 0, 0x00, 5, 0, 0), Check.repeat(5, 9));
    }

    private static void noByteOfM0() {
        Check.sentence("Terms, TO UNPACK 0: no byte that M needs");
        malformed("the first", 0, NO_PAST, 4, 0x1F, 5, 1, 0);
        malformed("behind 255", 0, NO_PAST, 5, 0x1F, 5, 1, 0, 255);
        malformed("behind 255 twice", 0, NO_PAST, 6, 0x1F, 5, 1, 0, 255, 255);
        malformed("in a second sequence", 0, NO_PAST, 7, 0x10, 5, 1, 0, 0x0F, 1, 0);
    }

    private static void tooManyCopied0() {
        Check.sentence("Terms, TO UNPACK 0: a plain row of more than 160 bytes with the copy (at T)");
        reads("160", 0, NO_PAST, Check.bytes(0x1F, 5, 1, 0, 140, 0), Check.repeat(5, 160));
        malformed("161", 0, NO_PAST, 0, 0x1F, 5, 1, 0, 141, 0);
        reads("160 with a second copy", 0, NO_PAST, Check.bytes(0x1F, 5, 1, 0, 136, 0x00, 1, 0, 0), Check.repeat(5, 160));
        malformed("161 with a second copy", 0, NO_PAST, 5, 0x1F, 5, 1, 0, 137, 0x00, 1, 0, 0);
        reads("160 from the past", 0, FULL_PAST, Check.bytes(0x0F, 1, 0, 141, 0), Check.repeat(63, 160));
        malformed("161 from the past", 0, FULL_PAST, 0, 0x0F, 1, 0, 142, 0);
        malformed("161 without a T behind", 0, NO_PAST, 0, 0x1F, 5, 1, 0, 141);
    }

    private static void firstOfThese0() {
        Check.sentence("Terms, TO UNPACK 0: It is MALFORMED at the first of these");
        malformed("L's byte goes before too many", 0, NO_PAST, 4, 0xF0, 255, 255, 255);
        malformed("too many go before a literal that is not there", 0, NO_PAST, 0, 0xF0, 200, 1);
        malformed("the distance's byte goes before the distance", 0, NO_PAST, 2, 0x00, 0);
        malformed("the distance goes before M's byte", 0, NO_PAST, 1, 0x0F, 0, 0);
        malformed("M's byte goes before too many", 0, NO_PAST, 5, 0x1F, 5, 1, 0, 255);
        malformed("the distance goes before too many", 0, NO_PAST, 2, 0x1F, 5, 2, 0, 250, 0);
        malformed("too many copied go before no T", 0, NO_PAST, 0, 0x1F, 5, 1, 0, 250);
    }

    // Terms, FORMAT 1

    private static void sevenBits1() {
        Check.sentence("Terms, FORMAT 1: the size: seven bits a byte, the lowest first, 128 in each but the last one; at most 2 bytes");
        reads("0", 1, NO_PAST, Check.bytes(0));
        reads("127 in one byte", 1, NO_PAST, Check.join(Check.bytes(127, 240, 126), Check.rising(1, 127)), Check.rising(1, 127));
        reads("128 in two", 1, NO_PAST, Check.join(Check.bytes(128, 1, 240, 127), Check.rising(1, 128)), Check.rising(1, 128));
        reads("160 in two", 1, NO_PAST, Check.join(Check.bytes(160, 1, 240, 159), Check.rising(1, 160)), Check.rising(1, 160));
        reads("0 in two, of which one would do", 1, NO_PAST, Check.bytes(128, 0));
        reads("2 in two, of which one would do", 1, NO_PAST, Check.bytes(130, 0, 4, 7, 8), 7, 8);
        malformed("0 in three", 1, NO_PAST, 1, 128, 128, 0);
    }

    private static void literals1() {
        Check.sentence("Terms, FORMAT 1: T & 3 is 0: n = T >> 2; if n is 60, n is the next byte; n + 1 literals follow");
        reads("n is 0", 1, NO_PAST, Check.bytes(1, 0, 9), 9);
        reads("n is 59", 1, NO_PAST, Check.join(Check.bytes(60, 236), Check.rising(1, 60)), Check.rising(1, 60));
        reads("n is 60", 1, NO_PAST, Check.join(Check.bytes(61, 240, 60), Check.rising(1, 61)), Check.rising(1, 61));
        reads("n is 61", 1, NO_PAST, Check.join(Check.bytes(62, 240, 61), Check.rising(1, 62)), Check.rising(1, 62));
        reads("n is 159", 1, NO_PAST, Check.join(Check.bytes(160, 1, 240, 159), Check.rising(1, 160)), Check.rising(1, 160));
        reads("the next byte is 0", 1, NO_PAST, Check.bytes(1, 240, 0, 7), 7);
        reads("the next byte is 59", 1, NO_PAST, Check.join(Check.bytes(60, 240, 59), Check.rising(1, 60)), Check.rising(1, 60));
        malformed("the next byte is 255: 256 literals", 1, NO_PAST, 2, Check.join(Check.bytes(160, 1, 240, 255), Check.rising(1, 196)));
        reads("literals behind literals", 1, NO_PAST, Check.bytes(2, 0, 7, 0, 8), 7, 8);
    }

    private static void shortCopies1() {
        Check.sentence("Terms, FORMAT 1: 1: (T >> 2 & 7) + 4 bytes are copied, the distance is (T >> 5) * 256 and the next byte");
        reads("4", 1, NO_PAST, Check.bytes(6, 4, 7, 8, 1, 2), 7, 8, 7, 8, 7, 8);
        reads("5", 1, NO_PAST, Check.bytes(6, 0, 7, 5, 1), Check.repeat(7, 6));
        reads("11", 1, NO_PAST, Check.bytes(12, 0, 7, 29, 1), Check.repeat(7, 12));
        int[] most = Check.join(Check.bytes(160, 1, 240, 155), Check.repeat(8, 156));
        reads("a distance of 220", 1, FULL_PAST, Check.join(most, Check.bytes(1, 220)), Check.join(Check.repeat(8, 156), Check.rising(0, 4)));
        malformed("a distance of 256 and 1", 1, FULL_PAST, 160, Check.join(most, Check.bytes(33, 1)));
        malformed("a distance of 7 * 256 and 1", 1, FULL_PAST, 160, Check.join(most, Check.bytes(225, 1)));
    }

    private static void longCopies1() {
        Check.sentence("Terms, FORMAT 1: 2: (T >> 2) + 1 bytes are copied, the distance is two bytes");
        reads("1", 1, NO_PAST, Check.bytes(3, 4, 7, 8, 2, 2, 0), 7, 8, 7);
        reads("2", 1, NO_PAST, Check.bytes(4, 4, 7, 8, 6, 2, 0), 7, 8, 7, 8);
        reads("64", 1, NO_PAST, Check.bytes(65, 0, 7, 254, 1, 0), Check.repeat(7, 65));
        int[] most = Check.join(Check.bytes(157, 1, 240, 155), Check.repeat(8, 156));
        reads("a distance of 220", 1, FULL_PAST, Check.join(most, Check.bytes(2, 220, 0)), Check.join(Check.repeat(8, 156), Check.bytes(0)));
        malformed("a distance of 1 and 256", 1, FULL_PAST, 161, Check.join(most, Check.bytes(2, 1, 1)));
    }

    // Terms, TO UNPACK format 1

    private static void noFirstByte1() {
        Check.sentence("Terms, TO UNPACK 1: no first byte");
        malformed("an empty row", 1, NO_PAST, 0);
        malformed("an empty row behind a past", 1, FULL_PAST, 0);
    }

    private static void noSecondByte1() {
        Check.sentence("Terms, TO UNPACK 1: no second one, if the first is above 127");
        malformed("128", 1, NO_PAST, 1, 128);
        malformed("255", 1, NO_PAST, 1, 255);
        reads("128 and a second", 1, NO_PAST, Check.bytes(128, 0));
        // 127 needs no second byte: what is there behind it is an element.
        malformed("127, then kind 3", 1, NO_PAST, 1, 127, 3);
        reads("127, then elements", 1, NO_PAST, Check.bytes(127, 0, 7, 254, 1, 0, 246, 1, 0), Check.repeat(7, 127));
    }

    private static void secondByteAbove127() {
        Check.sentence("Terms, TO UNPACK 1: a second one above 127 (at it)");
        malformed("128", 1, NO_PAST, 1, 128, 128);
        malformed("255", 1, NO_PAST, 1, 255, 255);
        malformed("128, a third one behind", 1, NO_PAST, 1, 129, 128, 0);
        malformed("129, whose low bits would do", 1, NO_PAST, 1, 128, 129, 0);
    }

    private static void sizeAbove160() {
        Check.sentence("Terms, TO UNPACK 1: a size above 160 (at its last byte)");
        reads("160", 1, NO_PAST, Check.bytes(160, 1, 0, 7, 254, 1, 0, 254, 1, 0, 122, 1, 0), Check.repeat(7, 160));
        malformed("161", 1, NO_PAST, 1, 161, 1, 0, 7, 254, 1, 0, 254, 1, 0, 126, 1, 0);
        malformed("161 and no element", 1, NO_PAST, 1, 161, 1);
        malformed("256", 1, NO_PAST, 1, 128, 2, 3);
        malformed("16383", 1, NO_PAST, 1, 255, 127);
        reads("127, the most in one byte", 1, NO_PAST, Check.bytes(127, 0, 7, 254, 1, 0, 246, 1, 0), Check.repeat(7, 127));
    }

    private static void wrongKind1() {
        Check.sentence("Terms, TO UNPACK 1: T & 3 is 3 (at T)");
        for (int t = 3; t < 256; t += 4) {
            malformed("T of " + t, 1, NO_PAST, 1, 5, t, 1, 0);
        }
        malformed("behind a literal", 1, NO_PAST, 3, 5, 0, 9, 255);
        malformed("behind a whole plain row", 1, NO_PAST, 3, 1, 0, 9, 3);
        malformed("in two bytes of size", 1, NO_PAST, 2, 128, 1, 3);
    }

    private static void literalAbove60() {
        Check.sentence("Terms, TO UNPACK 1: a literal's T >> 2 is above 60 (at T)");
        int[] row = Check.join(Check.bytes(160, 1, 240, 60), Check.rising(1, 61), Check.bytes(240, 98), Check.rising(62, 99));
        reads("60", 1, NO_PAST, row, Check.rising(1, 160));
        for (int n = 61; n <= 63; n++) {
            int[] wrong = row.clone();
            wrong[2] = n << 2;
            malformed("at first, " + n, 1, NO_PAST, 2, wrong);
            int[] later = row.clone();
            later[65] = n << 2;
            malformed("behind literals, " + n, 1, NO_PAST, 65, later);
            malformed("at the row's end, " + n, 1, NO_PAST, 1, 5, n << 2);
        }
    }

    private static void noByteBehindT1() {
        Check.sentence("Terms, TO UNPACK 1: a byte behind T that is not there");
        malformed("the one that says n", 1, NO_PAST, 2, 5, 240);
        malformed("the one that says n, whatever it says too many", 1, NO_PAST, 2, 0, 240);
        malformed("a short copy's", 1, NO_PAST, 4, 5, 0, 9, 1);
        malformed("a long copy's first", 1, NO_PAST, 4, 5, 0, 9, 14);
        malformed("a long copy's second", 1, NO_PAST, 5, 5, 0, 9, 14, 1);
    }

    private static void wrongDistance1() {
        Check.sentence("Terms, TO UNPACK 1: a distance that is 0 or goes beyond the history's beginning (kind 1: at T, kind 2: at its first byte)");
        malformed("kind 1, 0", 1, FULL_PAST, 3, 5, 0, 9, 1, 0);
        malformed("kind 2, 0", 1, FULL_PAST, 4, 5, 0, 9, 14, 0, 0);
        reads("kind 1, 1 of 1", 1, NO_PAST, Check.bytes(5, 0, 9, 1, 1), Check.repeat(9, 5));
        malformed("kind 1, 2 of 1", 1, NO_PAST, 3, 5, 0, 9, 1, 2);
        reads("kind 2, 1 of 1", 1, NO_PAST, Check.bytes(5, 0, 9, 14, 1, 0), Check.repeat(9, 5));
        malformed("kind 2, 2 of 1", 1, NO_PAST, 4, 5, 0, 9, 14, 2, 0);
        malformed("kind 1, 1 of none", 1, NO_PAST, 1, 4, 1, 1);
        malformed("kind 2, 1 of none", 1, NO_PAST, 2, 4, 14, 1, 0);
        reads("kind 1, 64 of 64", 1, FULL_PAST, Check.bytes(4, 1, 64), 0, 1, 2, 3);
        malformed("kind 1, 65 of 64", 1, FULL_PAST, 1, 4, 1, 65);
        reads("kind 2, 64 of 64", 1, FULL_PAST, Check.bytes(4, 14, 64, 0), 0, 1, 2, 3);
        malformed("kind 2, 65 of 64", 1, FULL_PAST, 2, 4, 14, 65, 0);
        malformed("kind 1, 256", 1, FULL_PAST, 3, 5, 0, 9, 33, 0);
        malformed("kind 1, 2047", 1, FULL_PAST, 3, 5, 0, 9, 225, 255);
        malformed("kind 2, 256", 1, FULL_PAST, 4, 5, 0, 9, 14, 0, 1);
        malformed("kind 2, 65535", 1, FULL_PAST, 4, 5, 0, 9, 14, 255, 255);
    }

    private static void moreThanTheSize1() {
        Check.sentence("Terms, TO UNPACK 1: a plain row of more bytes than the size (at T)");
        reads("just the size of literals", 1, NO_PAST, Check.bytes(2, 4, 7, 8), 7, 8);
        malformed("one literal more", 1, NO_PAST, 1, 1, 4, 7, 8);
        malformed("a literal behind the size", 1, NO_PAST, 3, 1, 0, 7, 0, 8);
        malformed("a literal behind a size of 0", 1, NO_PAST, 1, 0, 0, 7);
        malformed("a literal more, with the next byte", 1, NO_PAST, 1, 1, 240, 1, 7, 8);
        reads("just the size with a short copy", 1, NO_PAST, Check.bytes(5, 0, 9, 1, 1), Check.repeat(9, 5));
        malformed("one more with a short copy", 1, NO_PAST, 3, 4, 0, 9, 1, 1);
        reads("just the size with a long copy", 1, NO_PAST, Check.bytes(5, 0, 9, 14, 1, 0), Check.repeat(9, 5));
        malformed("one more with a long copy", 1, NO_PAST, 3, 4, 0, 9, 14, 1, 0);
        malformed("a long copy of 1 behind the size", 1, NO_PAST, 3, 1, 0, 9, 2, 1, 0);
        malformed("161 bytes", 1, NO_PAST, 10, 160, 1, 0, 7, 254, 1, 0, 254, 1, 0, 126, 1, 0);
        malformed("from the past", 1, FULL_PAST, 1, 3, 1, 4);
    }

    private static void noLiteral1() {
        Check.sentence("Terms, TO UNPACK 1: a literal that is not there");
        malformed("the only one", 1, NO_PAST, 2, 1, 0);
        malformed("the last", 1, NO_PAST, 4, 3, 8, 1, 2);
        malformed("the first of 61", 1, NO_PAST, 3, 61, 240, 60);
        malformed("the last of 160", 1, NO_PAST, 163, Check.join(Check.bytes(160, 1, 240, 159), Check.rising(1, 159)));
        malformed("behind a copy", 1, NO_PAST, 6, 6, 0, 9, 1, 1, 0);
    }

    private static void fewerThanTheSize1() {
        Check.sentence("Terms, TO UNPACK 1: At the end: fewer bytes than the size (the row's size)");
        reads("no elements and a size of 0", 1, FULL_PAST, Check.bytes(0));
        malformed("no elements and a size of 1", 1, NO_PAST, 1, 1);
        malformed("one fewer", 1, NO_PAST, 3, 2, 0, 7);
        malformed("one fewer, with a copy", 1, NO_PAST, 5, 6, 0, 9, 1, 1);
        malformed("no elements behind a size in two bytes", 1, NO_PAST, 2, 130, 0);
        malformed("159 of 160", 1, NO_PAST, 13, 160, 1, 0, 7, 254, 1, 0, 254, 1, 0, 118, 1, 0);
        malformed("the past is no part of it", 1, Check.bytes(1, 2, 3, 4), 3, 5, 1, 4);
    }

    private static void firstOfThese1() {
        Check.sentence("Terms, TO UNPACK 1: It is MALFORMED at the first of these");
        malformed("the next byte goes before too many", 1, NO_PAST, 2, 0, 240);
        malformed("too many go before a literal that is not there", 1, NO_PAST, 1, 1, 240, 200);
        malformed("the distance's byte goes before the distance", 1, NO_PAST, 2, 1, 1);
        malformed("the distance's second byte goes before the distance", 1, NO_PAST, 3, 1, 2, 0);
        malformed("a short distance goes before too many", 1, NO_PAST, 3, 1, 0, 9, 1, 0);
        malformed("a long distance goes before too many", 1, NO_PAST, 4, 1, 0, 9, 14, 0, 0);
        malformed("61 goes before the byte behind it and too many", 1, NO_PAST, 1, 0, 244);
        malformed("a size above 160 goes before its elements", 1, NO_PAST, 1, 255, 2, 3);
        malformed("an element goes before fewer than the size", 1, NO_PAST, 1, 5, 3);
    }
}
