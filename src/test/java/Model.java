import java.util.ArrayList;
import java.util.HashMap;
import java.util.List;
import java.util.Map;

/** The document's terms once more, written apart from the class and with no care for room or speed. */
final class Model {
    /** What pack is due to leave. */
    static final class Packed {
        final List<Integer> bytes = new ArrayList<>();
        int matches;
        int copied;

        private void literals0(int[] plain, int from, int to, int low) {
            int count = to - from;
            bytes.add((count >= 15 ? 240 : count * 16) + low);
            sum(count);
            for (int i = from; i < to; i++) {
                bytes.add(plain[i]);
            }
        }

        private void sum(int n) {
            if (n >= 15) {
                for (int i = 0; i < (n - 15) / 255; i++) {
                    bytes.add(255);
                }
                bytes.add((n - 15) % 255);
            }
        }

        private void literals1(int[] plain, int from, int to) {
            int count = to - from;
            if (count == 0) {
                return;
            }
            if (count <= 60) {
                bytes.add((count - 1) * 4);
            } else {
                bytes.add(240);
                bytes.add(count - 1);
            }
            for (int i = from; i < to; i++) {
                bytes.add(plain[i]);
            }
        }

        private void copies1(int distance, int length) {
            if (length >= 4 && length <= 11 && distance < 2048) {
                bytes.add(1 + (length - 4) * 4 + distance / 256 * 32);
                bytes.add(distance % 256);
                return;
            }
            int now = length >= 68 ? 64 : length > 64 ? 60 : length;
            bytes.add(2 + (now - 1) * 4);
            bytes.add(distance % 256);
            bytes.add(distance / 256);
            if (length > now) {
                copies1(distance, length - now);
            }
        }
    }

    /** The place at which a row is malformed. */
    private static final class Malformed extends Exception {
        private static final long serialVersionUID = 1L;
        final int place;

        Malformed(int place) {
            this.place = place;
        }
    }

    private Model() {
    }

    private static int four(int[] bytes, int at) {
        return bytes[at] + bytes[at + 1] * 256 + bytes[at + 2] * 65536 + bytes[at + 3] * 16777216;
    }

    private static int tableHash(int[] history, int at) {
        return (int) ((four(history, at) * -1640531535L & 0xFFFFFFFFL) >> 27);
    }

    static Packed pack(int format, int[] past, int[] plain) {
        Packed out = new Packed();
        int[] history = Check.join(past, plain);
        Map<Integer, Integer> table = new HashMap<>();
        for (int i = 0; i <= past.length - 4; i++) {
            table.put(tableHash(history, i), i);
        }
        if (format == 1) {
            if (plain.length >= 128) {
                out.bytes.add(plain.length % 128 + 128);
                out.bytes.add(plain.length / 128);
            } else {
                out.bytes.add(plain.length);
            }
        }
        int anchor = 0;
        int place = 0;
        while (plain.length - place >= 12) {
            int here = past.length + place;
            Integer c = table.put(tableHash(history, here), here);
            if (c == null || four(history, c) != four(history, here)) {
                place++;
                continue;
            }
            int length = 4;
            while (place + length < plain.length - 5 && history[c + length] == history[here + length]) {
                length++;
            }
            int distance = here - c;
            if (format == 0) {
                out.literals0(plain, anchor, place, Math.min(15, length - 4));
                out.bytes.add(distance % 256);
                out.bytes.add(distance / 256);
                out.sum(length - 4);
            } else {
                out.literals1(plain, anchor, place);
                out.copies1(distance, length);
            }
            out.matches++;
            out.copied += length;
            place += length;
            anchor = place;
        }
        if (format == 0) {
            out.literals0(plain, anchor, plain.length, 0);
        } else {
            out.literals1(plain, anchor, plain.length);
        }
        return out;
    }

    /** The answer due to unpack; the plain row is put into out when there is one. */
    static int unpack(int format, int[] past, int[] packed, List<Integer> out) {
        List<Integer> history = new ArrayList<>();
        for (int b : past) {
            history.add(b);
        }
        try {
            if (format == 0) {
                unpack0(history, past.length, packed);
            } else {
                unpack1(history, past.length, packed);
            }
        } catch (Malformed e) {
            return -1 - e.place;
        }
        out.addAll(history.subList(past.length, history.size()));
        return out.size();
    }

    private static int at(int[] packed, int k) throws Malformed {
        if (k >= packed.length) {
            throw new Malformed(packed.length);
        }
        return packed[k];
    }

    private static void copy(List<Integer> history, int distance, int length) {
        for (int i = 0; i < length; i++) {
            history.add(history.get(history.size() - distance));
        }
    }

    private static void unpack0(List<Integer> history, int past, int[] packed) throws Malformed {
        int k = 0;
        while (true) {
            int tPlace = k;
            int t = at(packed, k++);
            int literals = t >> 4;
            if (literals == 15) {
                int b;
                do {
                    b = at(packed, k++);
                    literals += b;
                } while (b == 255);
            }
            if (history.size() - past + literals > 160) {
                throw new Malformed(tPlace);
            }
            for (int i = 0; i < literals; i++) {
                history.add(at(packed, k++));
            }
            if (k == packed.length) {
                return;
            }
            int dPlace = k;
            int distance = at(packed, k) + at(packed, k + 1) * 256;
            k += 2;
            if (distance == 0 || distance > history.size()) {
                throw new Malformed(dPlace);
            }
            int length = (t & 15) + 4;
            if (length == 19) {
                int b;
                do {
                    b = at(packed, k++);
                    length += b;
                } while (b == 255);
            }
            if (history.size() - past + length > 160) {
                throw new Malformed(tPlace);
            }
            copy(history, distance, length);
        }
    }

    private static void unpack1(List<Integer> history, int past, int[] packed) throws Malformed {
        int k = 1;
        int size = at(packed, 0);
        if (size > 127) {
            int second = at(packed, 1);
            k = 2;
            size = size - 128 + second * 128;
            if (second > 127 || size > 160) {
                throw new Malformed(1);
            }
        }
        while (k < packed.length) {
            int tPlace = k;
            int t = packed[k++];
            int kind = t % 4;
            if (kind == 3 || kind == 0 && t / 4 > 60) {
                throw new Malformed(tPlace);
            }
            if (kind == 0) {
                int count = (t / 4 == 60 ? at(packed, k++) : t / 4) + 1;
                if (history.size() - past + count > size) {
                    throw new Malformed(tPlace);
                }
                for (int i = 0; i < count; i++) {
                    history.add(at(packed, k++));
                }
                continue;
            }
            int distance = kind == 1 ? t / 32 * 256 + at(packed, k) : at(packed, k) + 256 * at(packed, k + 1);
            k += kind;
            if (distance == 0 || distance > history.size()) {
                throw new Malformed(kind == 1 ? tPlace : tPlace + 1);
            }
            int length = kind == 1 ? t / 4 % 8 + 4 : t / 4 + 1;
            if (history.size() - past + length > size) {
                throw new Malformed(tPlace);
            }
            copy(history, distance, length);
        }
        if (history.size() - past < size) {
            throw new Malformed(packed.length);
        }
    }

    static int hash(int[] bytes, int seed) {
        int p1 = -1640531535;
        int p2 = -2048144777;
        int p3 = -1028477379;
        int k = 0;
        int h = seed + 374761393;
        if (bytes.length >= 16) {
            int[] lanes = {seed + p1 + p2, seed + p2, seed, seed - p1};
            for (; bytes.length - k >= 16; k += 16) {
                for (int i = 0; i < 4; i++) {
                    lanes[i] = Integer.rotateLeft(lanes[i] + four(bytes, k + 4 * i) * p2, 13) * p1;
                }
            }
            h = Integer.rotateLeft(lanes[0], 1) + Integer.rotateLeft(lanes[1], 7)
                + Integer.rotateLeft(lanes[2], 12) + Integer.rotateLeft(lanes[3], 18);
        }
        h += bytes.length;
        for (; bytes.length - k >= 4; k += 4) {
            h = Integer.rotateLeft(h + four(bytes, k) * p3, 17) * 668265263;
        }
        for (; k < bytes.length; k++) {
            h = Integer.rotateLeft(h + bytes[k] * 374761393, 11) * p1;
        }
        h = (h ^ h >>> 15) * p2;
        h = (h ^ h >>> 13) * p3;
        return h ^ h >>> 16;
    }
}
