/** Promise 4, put, with the form of pages, and promise 11, disk. */
public final class PutTest {
    private static final Check check = new Check();
    private static final int LAST = 65535;

    public static void main(String[] args) {
        putWritesPages();
        putOfTwoPages();
        putOfEverySize();
        putSharesNodes();
        putAgainReplaces();
        pagesGoRoundTheEnd();
        refusals();
        tapeIsEmptyThen();
        diskHasEdges();
        check.end();
    }

    private static void putWritesPages() {
        ShredStore store = new ShredStore();
        check.due("put", Kit.put(store, 27, 200, 5, 0x8877665544332211L), 1);
        long key = 0x8877665544332211L;
        Kit.duePage(check, store, 0, 2, 1, key, Kit.data(LAST, 5, 200));
        Kit.duePage(check, store, 1, 1, 2, key + 1, Kit.node(0, 0, 0, 0, 0, 0, key, 0));
        Kit.duePage(check, store, 2, 1, 3, key + 2, Kit.node(0, 0, 0, 0, key + 1, 1));
        Kit.duePage(check, store, 3, 1, 4, key + 3, Kit.node(0, 0, key + 2, 2));
        check.due("cell(0)", store.cell(0), key + 3);
        check.due("cell(1)", store.cell(1), 3);
        for (int i = 4 * 64; i < Kit.DISK_BYTES; i++) {
            check.due("disk(" + i + ")", store.disk(i), 0);
        }
    }

    private static void putOfTwoPages() {
        ShredStore store = new ShredStore();
        check.due("put", Kit.put(store, 0, 10, 49, 1), 1);
        Kit.duePage(check, store, 0, 2, 1, 1, Kit.data(LAST, 1, 58));
        Kit.duePage(check, store, 1, 2, 2, 1, Kit.data(0, 48, 10));
        Kit.duePage(check, store, 2, 1, 3, 2, Kit.node(1, 1));
        Kit.duePage(check, store, 3, 1, 4, 3, Kit.node(2, 2));
        Kit.duePage(check, store, 4, 1, 5, 4, Kit.node(3, 3));
        check.due("count(5)", store.count(5), 5);
        check.due("count(6)", store.count(6), 21);
    }

    private static void putOfEverySize() {
        for (int n = 0; n <= 96; n++) {
            ShredStore store = new ShredStore();
            check.due("put of " + n, Kit.put(store, n % 64, 7, n, 1), 1);
            check.due("size of " + n, store.size(n % 64), n);
            check.due("pages of " + n, store.count(5), n <= 48 ? 4 : 5);
            for (int i = 0; i < n; i++) {
                check.due("at " + i + " of " + n, store.at(n % 64, i), 7 + i & 255);
            }
            check.due("at behind " + n, store.at(n % 64, n), ShredStore.NONE);
        }
    }

    private static void putSharesNodes() {
        ShredStore store = new ShredStore();
        Kit.put(store, 20, 1, 4, 100);
        Kit.put(store, 22, 2, 4, 200);
        Kit.put(store, 24, 3, 4, 300);
        Kit.put(store, 63, 4, 4, 400);
        Kit.duePage(check, store, 5, 1, 6, 201, Kit.node(100, 0, 0, 0, 200, 4));
        Kit.duePage(check, store, 10, 1, 11, 302, Kit.node(0, 0, 201, 5, 301, 9));
        Kit.duePage(check, store, 15, 1, 16, 403, Kit.node(0, 0, 302, 10, 0, 0, 402, 14));
        int[] objects = {20, 22, 24, 63};
        for (int i = 0; i < objects.length; i++) {
            check.due("at", store.at(objects[i], 0), i + 1);
        }
        check.due("count(4)", store.count(4), 4);
    }

    private static void putAgainReplaces() {
        ShredStore store = new ShredStore();
        Kit.put(store, 9, 1, 96, 10);
        check.due("put again", Kit.put(store, 9, 50, 3, 20), 1);
        check.due("size", store.size(9), 3);
        check.due("at", store.at(9, 0), 50);
        check.due("count(4)", store.count(4), 1);
        check.due("count(3)", store.count(3), 4);
        for (long key = 10; key < 14; key++) {
            check.due("known, replaced", store.known(key), false);
            check.due("known, new", store.known(key + 10), true);
        }
    }

    private static void pagesGoRoundTheEnd() {
        ShredStore store = new ShredStore();
        Kit.put(store, 0, 1, 4, 1);
        for (int n = 1; n < 50; n++) {
            check.due("put", Kit.put(store, 1, n, 4, 1 + 4 * n), 1);
        }
        check.due("cell(1), before the end", store.cell(1), 199);
        check.due("put, round the end", Kit.put(store, 1, 77, 4, 1000), 1);
        check.due("live(0)", store.live(0), true);
        Kit.duePage(check, store, 0, 2, 1, 1, Kit.data(LAST, 4, 1));
        Kit.duePage(check, store, 1, 2, 201, 1000, Kit.data(LAST, 4, 77));
        Kit.duePage(check, store, 4, 1, 204, 1003, Kit.node(1002, 3));
        check.due("at(0, 0)", store.at(0, 0), 1);
        check.due("at(1, 0)", store.at(1, 0), 77);
    }

    private static void refusals() {
        ShredStore store = new ShredStore();
        Kit.feed(store, 1, 8);
        Kit.supply(store, 1, 3);
        dueRefused("put with three keys", store, store.put(0, 0), 3, 8);
        Kit.supply(store, 4, 1);
        dueRefused("put(-1, 0)", store, store.put(-1, 0), 4, 8);
        dueRefused("put(64, 0)", store, store.put(64, 0), 4, 8);
        dueRefused("put(least, 0)", store, store.put(Integer.MIN_VALUE, 0), 4, 8);
        dueRefused("put(0, 9)", store, store.put(0, 9), 4, 8);
        dueRefused("put(0, -1)", store, store.put(0, -1), 4, 8);
        dueRefused("put(0, greatest)", store, store.put(0, Integer.MAX_VALUE), 4, 8);
        dueRefused("put(0, least)", store, store.put(0, Integer.MIN_VALUE), 4, 8);
        check.due("put(0, 8)", store.put(0, 8), 1);
        Kit.supply(store, 5, 4);
        store.cut();
        check.due("put off", store.put(0, 0), ShredStore.BAD);
        check.due("count(6)", store.count(6), 17);
    }

    private static void dueRefused(String call, ShredStore store, int got, int keys, int bytes) {
        check.due(call, got, ShredStore.BAD);
        check.due(call + ", keys", store.count(1), keys);
        check.due(call + ", bytes", store.count(2), bytes);
        check.due(call + ", steps", store.count(6), 0);
        check.due(call + ", objects", store.count(4), 0);
    }

    private static void tapeIsEmptyThen() {
        ShredStore store = new ShredStore();
        Kit.feed(store, 1, 96);
        Kit.supply(store, 1, 9);
        check.due("put", store.put(3, 1), 1);
        check.due("count(2)", store.count(2), 0);
        check.due("count(1)", store.count(1), 5);
        check.due("size(3)", store.size(3), 1);
        check.due("put of 1", store.put(3, 1), ShredStore.BAD);
        check.due("put of 0", store.put(3, 0), 1);
        check.due("size(3)", store.size(3), 0);
        check.due("at(3, 0)", store.at(3, 0), ShredStore.NONE);
    }

    private static void diskHasEdges() {
        ShredStore store = new ShredStore();
        int[] outside = {-1, Integer.MIN_VALUE, Kit.DISK_BYTES, Integer.MAX_VALUE};
        for (int i : outside) {
            check.due("disk(" + i + ")", store.disk(i), ShredStore.NONE);
        }
        check.due("disk(last)", store.disk(Kit.DISK_BYTES - 1), 0);
        Kit.put(store, 0, 1, 4, 1);
        int before = store.disk(5);
        store.cut();
        check.due("disk off", store.disk(5), before);
        check.due("disk off, kind", store.disk(0), 2);
    }
}
