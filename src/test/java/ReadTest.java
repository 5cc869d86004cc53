/** Promises 6, 7, 12, 15 and 16: size, at, cell, live, count. */
public final class ReadTest {
    private static final Check check = new Check();

    public static void main(String[] args) {
        sizeAndAt();
        cellNumbers();
        livePages();
        counts();
        check.end();
    }

    private static void sizeAndAt() {
        ShredStore store = new ShredStore();
        Kit.put(store, 12, 130, 96, 1);
        check.due("size(12)", store.size(12), 96);
        check.due("size(13)", store.size(13), ShredStore.NONE);
        check.due("at(12, 0)", store.at(12, 0), 130);
        check.due("at(12, 47)", store.at(12, 47), 177);
        check.due("at(12, 48)", store.at(12, 48), 178);
        check.due("at(12, 95)", store.at(12, 95), 225);
        int[] outside = {96, -1, Integer.MAX_VALUE, Integer.MIN_VALUE};
        for (int i : outside) {
            check.due("at(12, " + i + ")", store.at(12, i), ShredStore.NONE);
        }
        check.due("at(13, 0)", store.at(13, 0), ShredStore.NONE);
        int[] wrong = {-1, 64, Integer.MAX_VALUE, Integer.MIN_VALUE};
        for (int object : wrong) {
            check.due("size(" + object + ")", store.size(object), ShredStore.BAD);
            check.due("at(" + object + ", 0)", store.at(object, 0), ShredStore.BAD);
        }
        store.cut();
        check.due("size off", store.size(12), ShredStore.BAD);
        check.due("size off, none", store.size(13), ShredStore.BAD);
        check.due("at off", store.at(12, 0), ShredStore.BAD);
        check.due("at off, none", store.at(12, 96), ShredStore.BAD);
        store.power();
        check.due("size on", store.size(12), 96);
        check.due("at on", store.at(12, 95), 225);
    }

    private static void cellNumbers() {
        ShredStore store = new ShredStore();
        Kit.put(store, 12, 1, 4, Long.MAX_VALUE - 3);
        check.due("cell(0)", store.cell(0), Long.MAX_VALUE);
        check.due("cell(1)", store.cell(1), 3);
        int[] other = {2, -1, Integer.MAX_VALUE, Integer.MIN_VALUE};
        for (int what : other) {
            check.due("cell(" + what + ")", store.cell(what), 0);
        }
        store.cut();
        check.due("cell(0) off", store.cell(0), Long.MAX_VALUE);
        check.due("cell(1) off", store.cell(1), 3);
    }

    private static void livePages() {
        ShredStore store = new ShredStore();
        Kit.put(store, 0, 1, 4, 10);
        Kit.put(store, 0, 1, 90, 20);
        Kit.put(store, 17, 1, 4, 30);
        boolean[] want = {false, false, false, false, true, true, true, true, false, true, true, true, true, false};
        for (int page = 0; page < want.length; page++) {
            check.due("live(" + page + ")", store.live(page), want[page]);
        }
        check.due("count(3)", store.count(3), 8);
        int[] outside = {-1, 199, 200, Integer.MAX_VALUE, Integer.MIN_VALUE};
        for (int page : outside) {
            check.due("live(" + page + ")", store.live(page), false);
        }
        store.cut();
        check.due("live off", store.live(4), true);
        check.due("live off, not", store.live(8), false);
    }

    private static void counts() {
        ShredStore store = new ShredStore();
        Kit.put(store, 0, 1, 4, 10);
        Kit.put(store, 1, 1, 60, 20);
        Kit.supply(store, 30, 5);
        Kit.feed(store, 1, 12);
        dueCounts("on", store, new int[] {1, 5, 12, 6, 2, 9, 38, 5});
        store.arm(6);
        check.due("put", store.put(2, 1), 0);
        dueCounts("went", store, new int[] {0, 0, 0, 6, 2, 10, 44, 5});
        store.power();
        dueCounts("came", store, new int[] {1, 0, 0, 6, 2, 10, 44, 5});
        int[] other = {8, -1, Integer.MAX_VALUE, Integer.MIN_VALUE};
        for (int what : other) {
            check.due("count(" + what + ")", store.count(what), ShredStore.NONE);
        }
    }

    private static void dueCounts(String when, ShredStore store, int[] want) {
        for (int what = 0; what < want.length; what++) {
            check.due(when + " count(" + what + ")", store.count(what), want[what]);
        }
    }
}
