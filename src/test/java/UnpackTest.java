/** Promise 5 (unpack): rows that are read, and every place at which a row is malformed. */
public final class UnpackTest {
    private static final int[] NO_PAST = {};
    private static final int[] BEFORE = {11, 22, 33};

    public static void main(String[] args) {
        wrongArguments();
        readFormat0();
        malformedFormat0();
        orderOfFormat0();
        readFormat1();
        malformedFormat1();
        orderOfFormat1();
        onlyThePlainRowChanges();
        readsAfterRefusals();
        Check.finish();
    }

    private static void reads(String what, int format, int[] past, int[] packed, int... plain) {
        PressSuite x = new PressSuite();
        Check.fill(x, Check.PAST, past);
        Check.fill(x, Check.PACKED, packed);
        Check.fill(x, Check.PLAIN, BEFORE);
        Check.same(what + ", unpack", x.unpack(format), plain.length);
        Check.holds(what, x, Check.PLAIN, plain);
    }

    private static void malformed(String what, int format, int[] past, int place, int... packed) {
        PressSuite x = new PressSuite();
        Check.fill(x, Check.PAST, past);
        Check.fill(x, Check.PACKED, packed);
        Check.fill(x, Check.PLAIN, BEFORE);
        Check.same(what + ", unpack", x.unpack(format), -1 - place);
        Check.holds(what, x, Check.PLAIN, BEFORE);
        Check.holds(what, x, Check.PACKED, packed);
        Check.holds(what, x, Check.PAST, past);
    }

    private static void wrongArguments() {
        PressSuite x = new PressSuite();
        Check.fill(x, Check.PACKED, 0);
        Check.fill(x, Check.PLAIN, BEFORE);
        for (int format : new int[] {-1, 2, 3, Integer.MIN_VALUE, Integer.MAX_VALUE}) {
            Check.refusesArgument("unpack " + format, () -> x.unpack(format));
        }
        Check.holds("after refused unpacks", x, Check.PLAIN, BEFORE);
    }

    private static void readFormat0() {
        reads("no literals", 0, NO_PAST, Check.bytes(0));
        reads("two literals", 0, NO_PAST, Check.bytes(0x20, 5, 6), 5, 6);
        reads("the low half of the last T is free", 0, NO_PAST, Check.bytes(0x2F, 5, 6), 5, 6);
        reads("15 literals", 0, NO_PAST, Check.join(Check.bytes(0xF0, 0), Check.rising(1, 15)), Check.rising(1, 15));
        reads("160 literals", 0, NO_PAST, Check.join(Check.bytes(0xF0, 145), Check.rising(1, 160)), Check.rising(1, 160));
        reads("a copy of 4", 0, NO_PAST, Check.bytes(0x20, 5, 6, 2, 0, 0x10, 9), 5, 6, 5, 6, 5, 6, 9);
        reads("a copy, then no literals", 0, NO_PAST, Check.bytes(0x10, 5, 1, 0, 0x00), 5, 5, 5, 5, 5);
        reads("a copy of 18", 0, NO_PAST, Check.bytes(0x1E, 5, 1, 0, 0x00), Check.repeat(5, 19));
        reads("a copy of 19", 0, NO_PAST, Check.bytes(0x1F, 5, 1, 0, 0, 0x00), Check.repeat(5, 20));
        reads("a copy of 159", 0, NO_PAST, Check.bytes(0x1F, 5, 1, 0, 140, 0x00), Check.repeat(5, 160));
        reads("a copy from the past", 0, Check.bytes(1, 2, 3, 4, 5), Check.bytes(0x00, 5, 0, 0x10, 9), 1, 2, 3, 4, 9);
        reads("a copy out of the past", 0, Check.bytes(1, 2), Check.bytes(0x10, 7, 3, 0, 0), 7, 1, 2, 7, 1);
        reads("the longest distance that can be copied", 0, Check.rising(0, 64), Check.join(
            Check.bytes(0xF0, 141), Check.repeat(8, 156), Check.bytes(220, 0, 0)),
            Check.join(Check.repeat(8, 156), Check.bytes(0, 1, 2, 3)));
    }

    private static void malformedFormat0() {
        malformed("no T", 0, NO_PAST, 0);
        malformed("no T behind a copy", 0, NO_PAST, 4, 0x10, 5, 1, 0);
        malformed("no byte that L needs", 0, NO_PAST, 1, 0xF0);
        malformed("no byte that L needs behind 255", 0, NO_PAST, 3, 0xF0, 255, 255);
        malformed("161 literals", 0, NO_PAST, 0, 0xF0, 146);
        malformed("many literals", 0, NO_PAST, 0, 0xF0, 255, 0);
        malformed("161 bytes with literals", 0, NO_PAST, 5, 0x1F, 5, 1, 0, 140, 0x10, 7);
        malformed("no first literal", 0, NO_PAST, 1, 0x10);
        malformed("no last literal", 0, NO_PAST, 3, 0x30, 1, 2);
        malformed("no second byte of the distance", 0, NO_PAST, 3, 0x10, 5, 1);
        malformed("a distance of 0", 0, NO_PAST, 2, 0x10, 5, 0, 0, 0);
        malformed("a distance of 2 of 1", 0, NO_PAST, 2, 0x10, 5, 2, 0, 0);
        malformed("a distance of 257 of 1", 0, NO_PAST, 2, 0x10, 5, 1, 1, 0);
        malformed("a distance beyond the past", 0, Check.bytes(1, 2), 2, 0x10, 5, 4, 0, 0);
        malformed("a distance of 65535", 0, Check.rising(0, 64), 1, 0x00, 255, 255, 0);
        malformed("no byte that M needs", 0, NO_PAST, 4, 0x1F, 5, 1, 0);
        malformed("no byte that M needs behind 255", 0, NO_PAST, 5, 0x1F, 5, 1, 0, 255);
        malformed("161 bytes with a copy", 0, NO_PAST, 0, 0x1F, 5, 1, 0, 141, 0);
        malformed("161 bytes with a second copy", 0, NO_PAST, 5, 0x1F, 5, 1, 0, 137, 0x00, 1, 0, 0);
        malformed("the past takes no room, nor gives any", 0, Check.rising(0, 64), 0, 0x0F, 1, 0, 142, 0);
    }

    private static void orderOfFormat0() {
        malformed("L's byte goes before too many", 0, NO_PAST, 4, 0xF0, 255, 255, 255);
        malformed("too many go before a literal that is not there", 0, NO_PAST, 0, 0xF0, 200, 1);
        malformed("the distance's byte goes before the distance", 0, NO_PAST, 2, 0x00, 0);
        malformed("the distance goes before M's byte", 0, NO_PAST, 1, 0x0F, 0, 0);
        malformed("M's byte goes before too many", 0, NO_PAST, 5, 0x1F, 5, 1, 0, 255);
        malformed("the distance goes before too many", 0, NO_PAST, 2, 0x1F, 5, 2, 0, 250, 0);
    }

    private static void readFormat1() {
        reads("nothing", 1, NO_PAST, Check.bytes(0));
        reads("nothing, said in two bytes", 1, NO_PAST, Check.bytes(128, 0));
        reads("one literal", 1, NO_PAST, Check.bytes(1, 0, 9), 9);
        reads("60 literals", 1, NO_PAST, Check.join(Check.bytes(60, 236), Check.rising(1, 60)), Check.rising(1, 60));
        reads("61 literals", 1, NO_PAST, Check.join(Check.bytes(61, 240, 60), Check.rising(1, 61)), Check.rising(1, 61));
        reads("the next byte may say little", 1, NO_PAST, Check.bytes(2, 240, 1, 7, 8), 7, 8);
        reads("160 literals", 1, NO_PAST, Check.join(Check.bytes(160, 1, 240, 159), Check.rising(1, 160)), Check.rising(1, 160));
        reads("kind 1 copies 4", 1, NO_PAST, Check.bytes(6, 4, 7, 8, 1, 2), 7, 8, 7, 8, 7, 8);
        reads("kind 1 copies 11", 1, NO_PAST, Check.bytes(12, 0, 7, 29, 1), Check.repeat(7, 12));
        reads("kind 2 copies 1", 1, NO_PAST, Check.bytes(3, 4, 7, 8, 2, 2, 0), 7, 8, 7);
        reads("kind 2 copies 64", 1, NO_PAST, Check.bytes(65, 0, 7, 254, 1, 0), Check.repeat(7, 65));
        reads("kind 1 from the past", 1, Check.bytes(1, 2, 3, 4, 5), Check.bytes(4, 1, 5), 1, 2, 3, 4);
        reads("kind 2 out of the past", 1, Check.bytes(1, 2), Check.bytes(5, 18, 2, 0), 1, 2, 1, 2, 1);
        reads("literals behind literals", 1, NO_PAST, Check.bytes(2, 0, 7, 0, 8), 7, 8);
    }

    private static void malformedFormat1() {
        malformed("no first byte", 1, NO_PAST, 0);
        malformed("no second byte", 1, NO_PAST, 1, 128);
        malformed("a second byte above 127", 1, NO_PAST, 1, 128, 128);
        malformed("a second byte above 127, a third", 1, NO_PAST, 1, 129, 129, 0);
        malformed("a size of 161", 1, NO_PAST, 1, 161, 1);
        malformed("a size of 256", 1, NO_PAST, 1, 128, 2, 3);
        malformed("kind 3", 1, NO_PAST, 1, 5, 3);
        malformed("kind 3, with other bits", 1, NO_PAST, 3, 5, 0, 9, 255);
        malformed("a literal's 61", 1, NO_PAST, 1, 5, 244, 1, 1, 1);
        malformed("a literal's 63", 1, NO_PAST, 1, 5, 252, 1, 1, 1);
        malformed("no next byte of literals", 1, NO_PAST, 2, 5, 240);
        malformed("no byte of a short distance", 1, NO_PAST, 4, 5, 0, 9, 1);
        malformed("no byte of a long distance", 1, NO_PAST, 4, 5, 0, 9, 14);
        malformed("no second byte of a long distance", 1, NO_PAST, 5, 5, 0, 9, 14, 1);
        malformed("a short distance of 0", 1, NO_PAST, 3, 5, 0, 9, 1, 0);
        malformed("a short distance of 2 of 1", 1, NO_PAST, 3, 5, 0, 9, 1, 2);
        malformed("a short distance of 257", 1, NO_PAST, 3, 5, 0, 9, 33, 1);
        malformed("a short distance of 1793", 1, NO_PAST, 3, 5, 0, 9, 225, 1);
        malformed("a long distance of 0", 1, NO_PAST, 4, 5, 0, 9, 14, 0, 0);
        malformed("a long distance of 2 of 1", 1, NO_PAST, 4, 5, 0, 9, 14, 2, 0);
        malformed("a long distance of 257", 1, NO_PAST, 4, 5, 0, 9, 14, 1, 1);
        malformed("a distance beyond the past", 1, Check.bytes(1, 2), 1, 4, 1, 3);
        malformed("more literals than the size", 1, NO_PAST, 1, 1, 4, 7, 8);
        malformed("a literal behind the size", 1, NO_PAST, 3, 1, 0, 7, 0, 8);
        malformed("a literal behind a size of 0", 1, NO_PAST, 1, 0, 0, 7);
        malformed("more short copies than the size", 1, NO_PAST, 3, 4, 0, 9, 1, 1);
        malformed("more long copies than the size", 1, NO_PAST, 3, 4, 0, 9, 14, 1, 0);
        malformed("no first literal", 1, NO_PAST, 2, 1, 0);
        malformed("no last literal", 1, NO_PAST, 4, 3, 8, 1, 2);
        malformed("fewer bytes than the size", 1, NO_PAST, 3, 2, 0, 7);
        malformed("no bytes at all", 1, NO_PAST, 1, 2);
        malformed("no bytes of a size in two bytes", 1, NO_PAST, 2, 130, 0);
        malformed("the past is no part of the size", 1, Check.bytes(1, 2, 3, 4), 3, 5, 1, 4);
    }

    private static void orderOfFormat1() {
        malformed("the next byte goes before too many", 1, NO_PAST, 2, 0, 240);
        malformed("too many go before a literal that is not there", 1, NO_PAST, 1, 1, 240, 200);
        malformed("the distance's byte goes before the distance", 1, NO_PAST, 2, 1, 1);
        malformed("the distance's second byte goes before the distance", 1, NO_PAST, 3, 1, 2, 0);
        malformed("a short distance goes before too many", 1, NO_PAST, 3, 1, 0, 9, 1, 0);
        malformed("a long distance goes before too many", 1, NO_PAST, 4, 1, 0, 9, 14, 0, 0);
        malformed("61 goes before too many", 1, NO_PAST, 1, 0, 244);
    }

    private static void readsAfterRefusals() {
        PressSuite x = new PressSuite();
        for (int turn = 0; turn < 2; turn++) {
            x.empty(Check.PACKED);
            Check.same("no row, format 0", x.unpack(0), -1);
            Check.same("no row, format 1", x.unpack(1), -1);
            Check.fill(x, Check.PACKED, 0x30, 1, 2);
            Check.same("no third literal", x.unpack(0), -4);
            Check.fill(x, Check.PACKED, 0x20, 1, 2);
            Check.same("two literals, format 0", x.unpack(0), 2);
            Check.fill(x, Check.PACKED, 3, 4, 7, 8);
            Check.same("fewer than the size", x.unpack(1), -5);
            Check.fill(x, Check.PACKED, 2, 4, 7, 8);
            Check.same("two literals, format 1", x.unpack(1), 2);
            Check.holds("read after refusals", x, Check.PLAIN, 7, 8);
        }
    }

    private static void onlyThePlainRowChanges() {
        for (int format = 0; format < 2; format++) {
            PressSuite x = new PressSuite();
            int[] packed = format == 0 ? Check.bytes(0x10, 9, 2, 0, 0) : Check.bytes(5, 0, 9, 1, 2);
            Check.fill(x, Check.PAST, 4, 5, 6);
            Check.fill(x, Check.PACKED, packed);
            for (int turn = 0; turn < 3; turn++) {
                Check.same("unpack", x.unpack(format), 5);
                Check.holds("the plain row", x, Check.PLAIN, 9, 6, 9, 6, 9);
                Check.holds("the packed row", x, Check.PACKED, packed);
                Check.holds("the past", x, Check.PAST, 4, 5, 6);
            }
            x.put(Check.PLAIN, 1, 1);
            Check.holds("put behind what was unpacked", x, Check.PLAIN, 9, 6, 9, 6, 9, 1);
            Check.same("unpack once more", x.unpack(format), 5);
        }
    }
}
