/**
 * Two fast packers of bytes, each with its reader, and two sums to check by.
 *
 * Every row is made in the constructor and used again, so that no call makes an object.
 */
public final class PressSuite {
    private static final int PLAIN_LIMIT = 160;
    private static final int PACKED_LIMIT = 200;
    private static final int PAST_LIMIT = 64;

    private static final int CRC_POLYNOMIAL = -2097792136;

    private static final int P1 = -1640531535;
    private static final int P2 = -2048144777;
    private static final int P3 = -1028477379;
    private static final int P4 = 668265263;
    private static final int P5 = 374761393;

    private final Row plain;
    private final Row packed;
    private final Row past;
    // A malformed row must change nothing, so a reader fills this row and not the plain one.
    private final Row draft;
    private final Packer packer;
    private final Writer sequenceWriter;
    private final Writer elementWriter;
    private final Reader sequenceReader;
    private final Reader elementReader;

    public PressSuite() {
        plain = new Row(PLAIN_LIMIT);
        packed = new Row(PACKED_LIMIT);
        past = new Row(PAST_LIMIT);
        draft = new Row(PLAIN_LIMIT);
        packer = new Packer(past, plain);
        sequenceWriter = new SequenceWriter(plain, packed);
        elementWriter = new ElementWriter(plain, packed);
        sequenceReader = new SequenceReader(packed, past, draft);
        elementReader = new ElementReader(packed, past, draft);
    }

    public void put(int row, long v, int n) throws IllegalArgumentException, IllegalStateException {
        Row target = rowOf(row);
        if (n < 1 || n > 8) {
            throw new IllegalArgumentException("n is not 1 to 8");
        }
        if (n > target.room()) {
            throw new IllegalStateException("no room for all bytes");
        }
        for (int i = 0; i < n; i++) {
            target.add((int) (v >>> (8 * i)));
        }
    }

    public int empty(int row) throws IllegalArgumentException {
        Row target = rowOf(row);
        int had = target.count;
        target.clear();
        return had;
    }

    public int pack(int format) throws IllegalArgumentException {
        requireFormat(format);
        packer.run(format == 0 ? sequenceWriter : elementWriter);
        return packed.count;
    }

    public int unpack(int format) throws IllegalArgumentException {
        requireFormat(format);
        Reader reader = format == 0 ? sequenceReader : elementReader;
        reader.rewind();
        reader.readAll();
        if (reader.refused()) {
            return -1 - reader.refusedAt;
        }
        plain.become(draft);
        return plain.count;
    }

    public int size(int row) throws IllegalArgumentException {
        return rowOf(row).count;
    }

    public int get(int row, int k) throws IllegalArgumentException, IllegalStateException {
        Row target = rowOf(row);
        if (k < 0 || k >= target.count) {
            throw new IllegalStateException("no such byte");
        }
        return target.byteAt(k);
    }

    public int found(int what) throws IllegalArgumentException {
        if (what < 0 || what > 1) {
            throw new IllegalArgumentException("what is not 0 or 1");
        }
        return what == 0 ? packer.matches : packer.copied;
    }

    public int crc(int row) throws IllegalArgumentException {
        Row target = rowOf(row);
        int r = -1;
        for (int k = 0; k < target.count; k++) {
            r = crcStep(r ^ target.byteAt(k));
        }
        return ~r;
    }

    public int hash(int row, int seed) throws IllegalArgumentException {
        Row target = rowOf(row);
        int h = target.count >= 16 ? mixLanes(target, seed) : seed + P5;
        return finish(mixRest(target, h + target.count));
    }

    private Row rowOf(int row) {
        if (row == 0) {
            return plain;
        }
        if (row == 1) {
            return packed;
        }
        if (row == 2) {
            return past;
        }
        throw new IllegalArgumentException("no such row");
    }

    private static void requireFormat(int format) {
        if (format < 0 || format > 1) {
            throw new IllegalArgumentException("no such format");
        }
    }

    private static int crcStep(int start) {
        int r = start;
        for (int bit = 0; bit < 8; bit++) {
            r = (r & 1) == 1 ? (r >>> 1) ^ CRC_POLYNOMIAL : r >>> 1;
        }
        return r;
    }

    private static int mixLanes(Row row, int seed) {
        return turnLeft(lane(row, 0, seed + P1 + P2), 1)
            + turnLeft(lane(row, 4, seed + P2), 7)
            + turnLeft(lane(row, 8, seed), 12)
            + turnLeft(lane(row, 12, seed - P1), 18);
    }

    // The lanes never meet before their sum, so each is run alone and none has to be kept.
    private static int lane(Row row, int offset, int start) {
        int lane = start;
        for (int block = 0; block + 16 <= row.count; block += 16) {
            lane = turnLeft(lane + row.intAt(block + offset) * P2, 13) * P1;
        }
        return lane;
    }

    private static int mixRest(Row row, int start) {
        int h = start;
        int wholeInts = row.count & ~3;
        for (int k = row.count & ~15; k < wholeInts; k += 4) {
            h = turnLeft(h + row.intAt(k) * P3, 17) * P4;
        }
        for (int k = wholeInts; k < row.count; k++) {
            h = turnLeft(h + row.byteAt(k) * P5, 11) * P1;
        }
        return h;
    }

    private static int finish(int start) {
        int h = start;
        h ^= h >>> 15;
        h *= P2;
        h ^= h >>> 13;
        h *= P3;
        h ^= h >>> 16;
        return h;
    }

    private static int turnLeft(int x, int bits) {
        return (x << bits) | (x >>> (32 - bits));
    }

    /** Bytes up to a limit; what is asked for outside of them is 0, so that no index can fail. */
    private static final class Row {
        private final byte[] bytes;
        private int count;

        Row(int limit) {
            bytes = new byte[limit];
        }

        int room() {
            return bytes.length - count;
        }

        void add(int b) {
            if (count >= 0 && count < bytes.length) {
                bytes[count] = (byte) b;
                count++;
            }
        }

        void clear() {
            count = 0;
        }

        int byteAt(int k) {
            return k >= 0 && k < count && k < bytes.length ? bytes[k] & 255 : 0;
        }

        int intAt(int k) {
            return byteAt(k) | byteAt(k + 1) << 8 | byteAt(k + 2) << 16 | byteAt(k + 3) << 24;
        }

        void become(Row other) {
            clear();
            for (int k = 0; k < other.count; k++) {
                add(other.byteAt(k));
            }
        }
    }

    /** The past and behind it a plain row, read as if they were one row. */
    private static final class History {
        private final Row past;
        private final Row plain;

        History(Row past, Row plain) {
            this.past = past;
            this.plain = plain;
        }

        int length() {
            return past.count + plain.count;
        }

        int byteAt(int place) {
            return place < past.count ? past.byteAt(place) : plain.byteAt(place - past.count);
        }

        int intAt(int place) {
            return byteAt(place) | byteAt(place + 1) << 8
                | byteAt(place + 2) << 16 | byteAt(place + 3) << 24;
        }
    }

    /** Looks for matches; the form in which they are written is the writer's. */
    private static final class Packer {
        private static final int NONE = -1;
        private static final int TABLE_SIZE = 32;
        private static final int HASH_FACTOR = -1640531535;
        private static final int HASH_SHIFT = 27;
        private static final int HASHED_BYTES = 4;
        private static final int LEAST_AHEAD = 12;
        private static final int LAST_LITERALS = 5;

        private final Row past;
        private final Row plain;
        private final History history;
        private final int[] table;
        private int anchor;
        private int matches;
        private int copied;

        Packer(Row past, Row plain) {
            this.past = past;
            this.plain = plain;
            history = new History(past, plain);
            table = new int[TABLE_SIZE];
        }

        void run(Writer writer) {
            anchor = 0;
            matches = 0;
            copied = 0;
            learnPast();
            writer.begin();
            for (int place = 0; place + LEAST_AHEAD <= plain.count;) {
                place += Math.max(1, copyFrom(place, writer));
            }
            writer.end(anchor);
        }

        private void learnPast() {
            for (int slot = 0; slot < table.length; slot++) {
                table[slot] = NONE;
            }
            for (int place = 0; place + HASHED_BYTES <= past.count; place++) {
                exchange(place);
            }
        }

        // Answers how many bytes a match at the place took; 0 when there is none.
        private int copyFrom(int place, Writer writer) {
            int here = past.count + place;
            int there = exchange(here);
            if (there == NONE || history.intAt(there) != history.intAt(here)) {
                return 0;
            }
            int length = matchLength(there, here);
            writer.match(anchor, place, here - there, length);
            anchor = place + length;
            matches++;
            copied += length;
            return length;
        }

        private int matchLength(int there, int here) {
            int most = history.length() - LAST_LITERALS - here;
            int length = 0;
            while (length < most && history.byteAt(there + length) == history.byteAt(here + length)) {
                length++;
            }
            return length;
        }

        private int exchange(int place) {
            int slot = (history.intAt(place) * HASH_FACTOR) >>> HASH_SHIFT;
            if (slot < 0 || slot >= table.length) {
                return NONE;
            }
            int before = table[slot];
            table[slot] = place;
            return before;
        }
    }

    /** Writes the plain row's literals and matches into the packed row, in one of the formats. */
    private abstract static class Writer {
        final Row plain;
        final Row out;

        Writer(Row plain, Row out) {
            this.plain = plain;
            this.out = out;
        }

        abstract void begin();

        abstract void match(int anchor, int place, int distance, int length);

        abstract void end(int anchor);

        void writePlain(int from, int to) {
            for (int k = from; k < to; k++) {
                out.add(plain.byteAt(k));
            }
        }
    }

    private static final class SequenceWriter extends Writer {
        private static final int LEAST_MATCH = 4;

        SequenceWriter(Row plain, Row out) {
            super(plain, out);
        }

        void begin() {
            out.clear();
        }

        void match(int anchor, int place, int distance, int length) {
            int extra = length - LEAST_MATCH;
            writeLiterals(anchor, place, Math.min(extra, 15));
            out.add(distance);
            out.add(distance >> 8);
            writeSum(extra);
        }

        void end(int anchor) {
            writeLiterals(anchor, plain.count, 0);
        }

        private void writeLiterals(int from, int to, int lowHalf) {
            int literals = to - from;
            out.add(Math.min(literals, 15) << 4 | lowHalf);
            writeSum(literals);
            writePlain(from, to);
        }

        // Up to 14 the number stands in the half byte alone.
        private void writeSum(int number) {
            if (number < 15) {
                return;
            }
            int left = number - 15;
            for (; left >= 255; left -= 255) {
                out.add(255);
            }
            out.add(left);
        }
    }

    private static final class ElementWriter extends Writer {
        private static final int NEXT_BYTE_SAYS = 60;
        private static final int SHORT_LEAST = 4;
        private static final int SHORT_MOST = 11;
        private static final int SHORT_DISTANCES = 2048;
        private static final int LONG_MOST = 64;

        ElementWriter(Row plain, Row out) {
            super(plain, out);
        }

        void begin() {
            out.clear();
            int left = plain.count;
            for (; left > 127; left >>>= 7) {
                out.add(left & 127 | 128);
            }
            out.add(left);
        }

        void match(int anchor, int place, int distance, int length) {
            writeLiterals(anchor, place);
            int left = length;
            for (; left >= LONG_MOST + SHORT_LEAST; left -= LONG_MOST) {
                writeLong(distance, LONG_MOST);
            }
            // Taking 64 here would leave fewer bytes than the short kind can copy.
            if (left > LONG_MOST) {
                writeLong(distance, LONG_MOST - SHORT_LEAST);
                left -= LONG_MOST - SHORT_LEAST;
            }
            writeCopy(distance, left);
        }

        void end(int anchor) {
            writeLiterals(anchor, plain.count);
        }

        private void writeLiterals(int from, int to) {
            if (from >= to) {
                return;
            }
            int n = to - from - 1;
            if (n < NEXT_BYTE_SAYS) {
                out.add(n << 2);
            } else {
                out.add(NEXT_BYTE_SAYS << 2);
                out.add(n);
            }
            writePlain(from, to);
        }

        private void writeCopy(int distance, int length) {
            if (length >= SHORT_LEAST && length <= SHORT_MOST && distance < SHORT_DISTANCES) {
                out.add((distance >> 8) << 5 | (length - SHORT_LEAST) << 2 | 1);
                out.add(distance);
            } else {
                writeLong(distance, length);
            }
        }

        private void writeLong(int distance, int length) {
            out.add((length - 1) << 2 | 2);
            out.add(distance);
            out.add(distance >> 8);
        }
    }

    /**
     * Reads a packed row from its front into a draft. The first refusal stands and stops all
     * taking and copying, so a reader may put its checks one behind another, in the document's order.
     */
    private abstract static class Reader {
        private static final int NOWHERE = -1;

        final Row source;
        final Row draft;
        private final History history;
        int at;
        private int refusedAt;

        Reader(Row source, Row past, Row draft) {
            this.source = source;
            this.draft = draft;
            history = new History(past, draft);
        }

        abstract void readAll();

        void rewind() {
            at = 0;
            refusedAt = NOWHERE;
            draft.clear();
        }

        boolean refused() {
            return refusedAt != NOWHERE;
        }

        boolean atEnd() {
            return at >= source.count;
        }

        void refuseIf(boolean wrong, int place) {
            if (wrong && refusedAt == NOWHERE) {
                refusedAt = place;
            }
        }

        int take() {
            refuseIf(at >= source.count, source.count);
            if (refusedAt != NOWHERE) {
                return 0;
            }
            int b = source.byteAt(at);
            at++;
            return b;
        }

        int takeTwo() {
            int low = take();
            return low | take() << 8;
        }

        void requireDistance(int distance, int place) {
            refuseIf(distance == 0 || distance > history.length(), place);
        }

        void requireRoom(int more, int limit, int place) {
            refuseIf(draft.count + more > limit, place);
        }

        void copyLiterals(int literals) {
            for (int i = 0; i < literals && !refused(); i++) {
                draft.add(take());
            }
        }

        void copyBack(int distance, int length) {
            for (int i = 0; i < length && !refused(); i++) {
                draft.add(history.byteAt(history.length() - distance));
            }
        }
    }

    private static final class SequenceReader extends Reader {
        private static final int LEAST_MATCH = 4;

        SequenceReader(Row source, Row past, Row draft) {
            super(source, past, draft);
        }

        void readAll() {
            boolean more = true;
            // A sequence takes a byte at least, or else is refused.
            for (int turn = 0; turn <= source.count && more; turn++) {
                more = readSequence();
            }
        }

        // Answers whether another sequence has to follow.
        private boolean readSequence() {
            int start = at;
            int t = take();
            int literals = takeSum(t >> 4);
            requireRoom(literals, PLAIN_LIMIT, start);
            copyLiterals(literals);
            if (refused() || atEnd()) {
                return false;
            }
            int distanceStart = at;
            int distance = takeTwo();
            requireDistance(distance, distanceStart);
            int length = takeSum(t & 15) + LEAST_MATCH;
            requireRoom(length, PLAIN_LIMIT, start);
            copyBack(distance, length);
            return !refused();
        }

        private int takeSum(int half) {
            int sum = half;
            int last = half == 15 ? 255 : 0;
            for (int turn = 0; turn <= source.count && last == 255; turn++) {
                last = take();
                sum += last;
            }
            return sum;
        }
    }

    private static final class ElementReader extends Reader {
        private static final int NEXT_BYTE_SAYS = 60;
        private static final int SHORT_LEAST = 4;

        private int promised;

        ElementReader(Row source, Row past, Row draft) {
            super(source, past, draft);
        }

        void readAll() {
            promised = takeSize();
            for (int turn = 0; turn < source.count && !atEnd() && !refused(); turn++) {
                readElement();
            }
            refuseIf(draft.count < promised, source.count);
        }

        private int takeSize() {
            int low = take();
            if (low <= 127) {
                return low;
            }
            int high = take();
            refuseIf(high > 127, at - 1);
            int said = low & 127 | high << 7;
            refuseIf(said > PLAIN_LIMIT, at - 1);
            return said;
        }

        private void readElement() {
            int start = at;
            int t = take();
            switch (t & 3) {
                case 0:
                    readLiterals(t >> 2, start);
                    break;
                case 1:
                    readShortCopy(t, start);
                    break;
                case 2:
                    readLongCopy(t, start);
                    break;
                default:
                    refuseIf(true, start);
                    break;
            }
        }

        private void readLiterals(int said, int start) {
            refuseIf(said > NEXT_BYTE_SAYS, start);
            int n = said == NEXT_BYTE_SAYS ? take() : said;
            requireRoom(n + 1, promised, start);
            copyLiterals(n + 1);
        }

        private void readShortCopy(int t, int start) {
            int distance = (t >> 5) * 256 + take();
            requireDistance(distance, start);
            int length = (t >> 2 & 7) + SHORT_LEAST;
            requireRoom(length, promised, start);
            copyBack(distance, length);
        }

        private void readLongCopy(int t, int start) {
            int distance = takeTwo();
            requireDistance(distance, start + 1);
            int length = (t >> 2) + 1;
            requireRoom(length, promised, start);
            copyBack(distance, length);
        }
    }
}
