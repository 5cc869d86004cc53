/** What several tests do to a store, and the forms of the document written a second time. */
final class Kit {
    static final int LAST = 65535;
    static final int[] FAR = {Integer.MIN_VALUE, Integer.MIN_VALUE + 1, Integer.MAX_VALUE - 1, Integer.MAX_VALUE};

    private Kit() {
    }

    static void supply(Subject s, long first, int count) {
        for (int i = 0; i < count; i++) {
            if (!s.supply(first + i)) {
                throw new IllegalStateException("key " + (first + i) + " was not taken");
            }
        }
    }

    /** Feeds the bytes from, from + 1 and so on, n of them at least. */
    static void feed(Subject s, int from, int n) {
        for (int i = 0; i < n; i += 4) {
            int b = from + i;
            s.feed((b & 255) << 24 | (b + 1 & 255) << 16 | (b + 2 & 255) << 8 | b + 3 & 255);
        }
    }

    /** Puts n bytes (from, from + 1 ..) under the keys firstKey to firstKey + 3. */
    static int put(Subject s, int object, int from, int n, long firstKey) {
        supply(s, firstKey, 4);
        feed(s, from, n);
        return s.put(object, n);
    }

    static int shred(Subject s, int object, long firstKey) {
        supply(s, firstKey, 3);
        return s.shred(object);
    }

    static long pad(long key, long n, long j) {
        long x = key + 7046029254386353131L * n + 2862933555777941757L * j;
        x ^= x >>> 29;
        x *= 4768777513237032717L;
        x ^= x >>> 32;
        return x;
    }

    /** What byte i of a page's 51 is xor-ed with. */
    static int padByte(long key, long writing, int i) {
        return (int) (pad(key, writing, i / 8) >>> (56 - 8 * (i % 8)) & 255);
    }

    static long number(int[] bytes, int from, int count) {
        long value = 0;
        for (int i = 0; i < count; i++) {
            value = value << 8 | bytes[from + i];
        }
        return value;
    }

    /** A node's bytes from key, page, key, page ..: up to four pairs. */
    static int[] node(long... pairs) {
        int[] bytes = new int[51];
        for (int e = 0; e < pairs.length / 2; e++) {
            for (int i = 0; i < 8; i++) {
                bytes[10 * e + i] = (int) (pairs[2 * e] >>> (56 - 8 * i) & 255);
            }
            bytes[10 * e + 8] = (int) (pairs[2 * e + 1] >>> 8 & 255);
            bytes[10 * e + 9] = (int) (pairs[2 * e + 1] & 255);
        }
        return bytes;
    }

    /** A node with one entry. */
    static int[] nodeWith(int entry, long key, int page) {
        long[] pairs = new long[8];
        pairs[2 * entry] = key;
        pairs[2 * entry + 1] = page;
        return node(pairs);
    }

    /** Whether the document leaves open what byte i of a node is: the page of an entry that is none. */
    static boolean isOpen(int[] node, int i) {
        return i < 40 && i % 10 >= 8 && number(node, i / 10 * 10, 8) == 0;
    }

    /** A data page's bytes: next page, count, and the bytes from, from + 1 .. */
    static int[] data(int next, int count, int from) {
        int[] bytes = new int[51];
        bytes[0] = next >>> 8;
        bytes[1] = next & 255;
        bytes[2] = count;
        for (int i = 0; i < count; i++) {
            bytes[3 + i] = from + i & 255;
        }
        return bytes;
    }
}
