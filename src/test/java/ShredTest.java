/** Promise 5, shred. */
public final class ShredTest {
    private static final Check check = new Check();

    public static void main(String[] args) {
        onlyObject();
        neighbourStays();
        upperNodeStays();
        rootEntryGoes();
        refusals();
        forgetsAll();
        check.end();
    }

    private static void onlyObject() {
        ShredStore store = new ShredStore();
        Kit.put(store, 33, 1, 60, 10);
        Kit.supply(store, 20, 3);
        check.due("shred", store.shred(33), 1);
        check.due("cell(0)", store.cell(0), 20);
        check.due("cell(1)", store.cell(1), 5);
        Kit.duePage(check, store, 5, 1, 6, 20, Kit.node());
        check.due("keys left", store.count(1), 2);
        check.due("pages written", store.count(5), 6);
        check.due("steps", store.count(6), 26);
        check.due("size", store.size(33), ShredStore.NONE);
        check.due("at", store.at(33, 0), ShredStore.NONE);
        check.due("live pages", store.count(3), 1);
    }

    private static void neighbourStays() {
        ShredStore store = new ShredStore();
        Kit.put(store, 4, 1, 4, 10);
        Kit.put(store, 7, 9, 4, 20);
        Kit.feed(store, 3, 4);
        Kit.supply(store, 30, 3);
        check.due("shred", store.shred(4), 1);
        Kit.duePage(check, store, 8, 1, 9, 30, Kit.node(0, 0, 0, 0, 0, 0, 20, 4));
        Kit.duePage(check, store, 9, 1, 10, 31, Kit.node(0, 0, 30, 8));
        Kit.duePage(check, store, 10, 1, 11, 32, Kit.node(31, 9));
        check.due("at(7, 0)", store.at(7, 0), 9);
        check.due("keys left", store.count(1), 0);
        check.due("the tape stays", store.count(2), 4);
        check.due("objects", store.count(4), 1);
    }

    private static void upperNodeStays() {
        ShredStore store = new ShredStore();
        Kit.put(store, 16, 1, 4, 10);
        Kit.put(store, 31, 9, 4, 20);
        Kit.supply(store, 30, 3);
        check.due("shred", store.shred(16), 1);
        Kit.duePage(check, store, 8, 1, 9, 30, Kit.node(0, 0, 0, 0, 0, 0, 21, 5));
        Kit.duePage(check, store, 9, 1, 10, 31, Kit.node(0, 0, 30, 8));
        check.due("keys left", store.count(1), 1);
        check.due("at(31, 0)", store.at(31, 0), 9);
    }

    private static void rootEntryGoes() {
        ShredStore store = new ShredStore();
        Kit.put(store, 0, 1, 4, 10);
        Kit.put(store, 63, 9, 4, 20);
        Kit.supply(store, 30, 3);
        check.due("shred", store.shred(0), 1);
        Kit.duePage(check, store, 8, 1, 9, 30, Kit.node(0, 0, 0, 0, 0, 0, 22, 6));
        check.due("keys left", store.count(1), 2);
        check.due("at(63, 0)", store.at(63, 0), 9);
    }

    private static void refusals() {
        ShredStore store = new ShredStore();
        Kit.supply(store, 1, 3);
        check.due("shred of nothing", store.shred(0), ShredStore.BAD);
        Kit.supply(store, 4, 3);
        Kit.feed(store, 1, 4);
        store.put(0, 4);
        check.due("shred with two keys", store.shred(0), ShredStore.BAD);
        Kit.supply(store, 7, 1);
        int[] wrong = {1, 63, 64, -1, Integer.MAX_VALUE, Integer.MIN_VALUE};
        for (int object : wrong) {
            check.due("shred(" + object + ")", store.shred(object), ShredStore.BAD);
        }
        check.due("keys", store.count(1), 3);
        check.due("steps", store.count(6), 17);
        check.due("shred", store.shred(0), 1);
        check.due("shred again", store.shred(0), ShredStore.BAD);
        Kit.put(store, 0, 1, 4, 20);
        Kit.supply(store, 30, 3);
        store.cut();
        check.due("shred off", store.shred(0), ShredStore.BAD);
        store.power();
        check.due("size", store.size(0), 4);
    }

    private static void forgetsAll() {
        ShredStore store = new ShredStore();
        for (int object = 0; object < 64; object++) {
            check.due("put", Kit.put(store, object, object, 0, 1 + 4 * object), 1);
        }
        check.due("objects", store.count(4), 64);
        check.due("live pages", store.count(3), 64 + 16 + 4 + 1);
        check.due("keys known", store.count(7), 85);
        Kit.supply(store, 1000, 3);
        check.due("shred", store.shred(42), 1);
        check.due("its key", store.known(1 + 4 * 42), false);
        check.due("another's key", store.known(1 + 4 * 43), true);
        check.due("objects", store.count(4), 63);
        check.due("live pages", store.count(3), 84);
    }
}
