/** Promises 13 and 14: known, knownAt. */
public final class KnownTest {
    private static final Check check = new Check();

    public static void main(String[] args) {
        oneObject();
        orderOfPages();
        pagesBehindAreAskedInTheSameRound();
        entriesInOrder();
        keysThatWereLeftOut();
        keysWrittenInVain();
        check.end();
    }

    private static void dueKnown(ShredStore store, long... want) {
        check.due("count(7)", store.count(7), want.length);
        for (int k = 0; k < want.length; k++) {
            check.due("knownAt(" + k + ")", store.knownAt(k), want[k]);
            check.due("known(" + want[k] + ")", store.known(want[k]), true);
        }
        int[] outside = {want.length, -1, Integer.MAX_VALUE, Integer.MIN_VALUE};
        for (int k : outside) {
            check.due("knownAt(" + k + ")", store.knownAt(k), 0);
        }
        check.due("known(0)", store.known(0), false);
    }

    private static void oneObject() {
        ShredStore store = new ShredStore();
        dueKnown(store);
        Kit.supply(store, 1, 4);
        check.due("known, supplied only", store.known(1), false);
        store.put(0, 0);
        dueKnown(store, 4, 3, 2, 1);
        store.cut();
        dueKnown(store, 4, 3, 2, 1);
    }

    private static void orderOfPages() {
        ShredStore store = new ShredStore();
        Kit.put(store, 63, 1, 4, 10);
        Kit.put(store, 0, 1, 4, 20);
        // nodes: 11 on page 1, 12 on page 2, 21 on page 5, 22 on page 6, the root 23 on page 7;
        // first 7 tells 22 and 12, then 2 tells 11 and 6 tells 21, then 1 tells 10 and 5 tells 20
        dueKnown(store, 23, 22, 12, 11, 21, 10, 20);
    }

    private static void pagesBehindAreAskedInTheSameRound() {
        ShredStore store = new ShredStore();
        Kit.put(store, 63, 1, 4, 10);
        Kit.put(store, 63, 1, 4, 20);
        store.cut();
        store.power();
        Kit.put(store, 0, 1, 4, 30);
        // nodes: 31 on page 1, 32 on page 2, the root 33 on page 3, 21 on page 5, 22 on page 6;
        // first 3 tells 32 and 22, and 6 tells 21; then 2 tells 31 and 5 tells 20; then 1 tells 30
        check.due("cell(1)", store.cell(1), 3);
        dueKnown(store, 33, 32, 22, 21, 31, 20, 30);
    }

    private static void entriesInOrder() {
        ShredStore store = new ShredStore();
        int[] objects = {3, 1, 0, 2};
        for (int object : objects) {
            Kit.put(store, object, 1, 4, 10 + 10 * object);
        }
        dueKnown(store, 33, 32, 31, 10, 20, 30, 40);
    }

    private static void keysThatWereLeftOut() {
        ShredStore store = new ShredStore();
        Kit.put(store, 0, 1, 4, 10);
        Kit.put(store, 1, 1, 4, 20);
        dueKnown(store, 23, 22, 21, 10, 20);
        Kit.supply(store, 30, 3);
        store.shred(0);
        dueKnown(store, 32, 31, 30, 20);
        Kit.supply(store, 40, 3);
        store.shred(1);
        dueKnown(store, 40);
    }

    private static void keysWrittenInVain() {
        ShredStore store = new ShredStore();
        Kit.put(store, 0, 1, 4, 10);
        Kit.supply(store, 20, 4);
        store.arm(16);
        check.due("put", store.put(1, 0), 0);
        dueKnown(store, 13, 12, 11, 10);
        check.due("page 7 is whole", store.disk(7 * 64), 1);
    }
}
