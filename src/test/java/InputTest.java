/** Promises 1 to 3: a new object, supply, feed. */
public final class InputTest {
    private static final Check check = new Check();

    public static void main(String[] args) {
        newObject();
        supplyTakesKeys();
        supplyRemembersKeys();
        supplyNeedsPower();
        feedCounts();
        feedOrdersBytes();
        feedNeedsPower();
        check.end();
    }

    private static void newObject() {
        ShredStore store = new ShredStore();
        int[] counts = {1, 0, 0, 0, 0, 0, 0, 0};
        for (int what = 0; what < counts.length; what++) {
            check.due("new count(" + what + ")", store.count(what), counts[what]);
        }
        check.due("new cell(0)", store.cell(0), 0);
        check.due("new cell(1)", store.cell(1), ShredStore.NONE);
        for (int i = 0; i < Kit.DISK_BYTES; i++) {
            check.due("new disk(" + i + ")", store.disk(i), 0);
        }
        for (int object = 0; object < 64; object++) {
            check.due("new size", store.size(object), ShredStore.NONE);
        }
        for (int page = 0; page < 200; page++) {
            check.due("new live", store.live(page), false);
        }
        check.due("new knownAt(0)", store.knownAt(0), 0);
        check.due("new known(0)", store.known(0), false);
        check.due("new power()", store.power(), false);
    }

    private static void supplyTakesKeys() {
        ShredStore store = new ShredStore();
        check.due("supply(0)", store.supply(0), false);
        check.due("supply(least)", store.supply(Long.MIN_VALUE), true);
        check.due("supply(-1)", store.supply(-1), true);
        for (int i = 3; i <= 40; i++) {
            check.due("supply " + i, store.supply(i), true);
            check.due("count(1)", store.count(1), i);
        }
        check.due("supply 41st", store.supply(1000), false);
        check.due("count(1)", store.count(1), 40);
        check.due("put", store.put(0, 0), 1);
        check.due("supply what was refused for room", store.supply(1000), true);
        check.due("count(1)", store.count(1), 37);
    }

    private static void supplyRemembersKeys() {
        ShredStore store = new ShredStore();
        Kit.supply(store, 5, 4);
        check.due("supply again, in the row", store.supply(8), false);
        check.due("put", store.put(0, 0), 1);
        check.due("supply again, used", store.supply(5), false);
        check.due("supply", store.supply(9), true);
        store.cut();
        store.power();
        check.due("count(1)", store.count(1), 0);
        check.due("supply again, lost with the power", store.supply(9), false);
        check.due("supply again, used, behind a cut", store.supply(6), false);
        check.due("supply", store.supply(10), true);
    }

    private static void supplyNeedsPower() {
        ShredStore store = new ShredStore();
        store.cut();
        check.due("supply off", store.supply(3), false);
        store.power();
        check.due("supply on", store.supply(3), true);
    }

    private static void feedCounts() {
        ShredStore store = new ShredStore();
        for (int n = 4; n <= 96; n += 4) {
            check.due("feed", store.feed(n), n);
            check.due("count(2)", store.count(2), n);
        }
        check.due("feed too much", store.feed(1), ShredStore.BAD);
        check.due("count(2)", store.count(2), 96);
    }

    private static void feedOrdersBytes() {
        ShredStore store = new ShredStore();
        Kit.supply(store, 1, 4);
        store.feed(0xF1E2D3C4);
        store.feed(0x01020304);
        store.put(63, 8);
        int[] want = {0xF1, 0xE2, 0xD3, 0xC4, 1, 2, 3, 4};
        for (int i = 0; i < want.length; i++) {
            check.due("at(63, " + i + ")", store.at(63, i), want[i]);
        }
    }

    private static void feedNeedsPower() {
        ShredStore store = new ShredStore();
        store.feed(1);
        store.cut();
        check.due("feed off", store.feed(1), ShredStore.BAD);
        check.due("count(2) off", store.count(2), 0);
        store.power();
        check.due("count(2) on", store.count(2), 0);
        check.due("feed on", store.feed(1), 4);
    }
}
