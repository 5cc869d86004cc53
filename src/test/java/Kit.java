/** What several tests do to a store, and the document's pad written a second time. */
final class Kit {
    static final int DISK_BYTES = 12800;

    private Kit() {
    }

    static void supply(ShredStore store, long first, int count) {
        for (int i = 0; i < count; i++) {
            if (!store.supply(first + i)) {
                throw new IllegalStateException("key " + (first + i) + " was not taken");
            }
        }
    }

    /** Feeds the bytes from, from + 1 and so on, n of them at least. */
    static void feed(ShredStore store, int from, int n) {
        for (int i = 0; i < n; i += 4) {
            int b = from + i;
            store.feed((b & 255) << 24 | (b + 1 & 255) << 16 | (b + 2 & 255) << 8 | b + 3 & 255);
        }
    }

    /** Puts n bytes (from, from + 1 ..) under four keys from firstKey on. */
    static int put(ShredStore store, int object, int from, int n, long firstKey) {
        supply(store, firstKey, 4);
        feed(store, from, n);
        return store.put(object, n);
    }

    static long pad(long key, long n, long j) {
        long x = key + 7046029254386353131L * n + 2862933555777941757L * j;
        x ^= x >>> 29;
        x *= 4768777513237032717L;
        x ^= x >>> 32;
        return x;
    }

    static int[] diskOf(ShredStore store) {
        int[] bytes = new int[DISK_BYTES];
        for (int i = 0; i < DISK_BYTES; i++) {
            bytes[i] = store.disk(i);
        }
        return bytes;
    }

    static long number(int[] bytes, int from, int count) {
        long value = 0;
        for (int i = 0; i < count; i++) {
            value = value << 8 | bytes[from + i];
        }
        return value;
    }

    /** The 51 bytes of a page without the pad, by the key it was written under. */
    static int[] body(ShredStore store, int page, long key) {
        int[] bytes = new int[64];
        for (int i = 0; i < 64; i++) {
            bytes[i] = store.disk(page * 64 + i);
        }
        long writing = number(bytes, 1, 4);
        int[] body = new int[51];
        for (int i = 0; i < 51; i++) {
            body[i] = bytes[13 + i] ^ (int) (pad(key, writing, i / 8) >>> (8 * (7 - i % 8)) & 255);
        }
        return body;
    }

    /** Checks kind, writing, tag and body of a page; the bytes that want does not have are 0. */
    static void duePage(Check check, ShredStore store, int page, int kind, long writing, long key, int[] want) {
        String name = "page " + page + " ";
        check.due(name + "kind", store.disk(page * 64), kind);
        for (int i = 0; i < 4; i++) {
            check.due(name + "writing " + i, store.disk(page * 64 + 1 + i), writing >>> (24 - 8 * i) & 255);
        }
        for (int i = 0; i < 8; i++) {
            check.due(name + "tag " + i, store.disk(page * 64 + 5 + i), pad(key, writing, 100) >>> (56 - 8 * i) & 255);
        }
        int[] body = body(store, page, key);
        for (int i = 0; i < 51; i++) {
            check.due(name + "body " + i, body[i], i < want.length ? want[i] : 0);
        }
    }

    /** A node's bytes from key, page, key, page ..: up to four pairs. */
    static int[] node(long... pairs) {
        int[] bytes = new int[51];
        for (int e = 0; e < pairs.length / 2; e++) {
            for (int i = 0; i < 8; i++) {
                bytes[10 * e + i] = (int) (pairs[2 * e] >>> (56 - 8 * i) & 255);
            }
            bytes[10 * e + 8] = (int) (pairs[2 * e + 1] >>> 8 & 255);
            bytes[10 * e + 9] = (int) (pairs[2 * e + 1] & 255);
        }
        return bytes;
    }

    /** A data page's bytes: next page, count, and the bytes from, from + 1 .. */
    static int[] data(int next, int count, int from) {
        int[] bytes = new int[51];
        bytes[0] = next >>> 8;
        bytes[1] = next & 255;
        bytes[2] = count;
        for (int i = 0; i < count; i++) {
            bytes[3 + i] = from + i & 255;
        }
        return bytes;
    }
}
