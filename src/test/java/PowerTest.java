/** Promises 8 to 10: cut, arm, power; and what stands when the power goes with any step. */
public final class PowerTest {
    private static final Check check = new Check();

    public static void main(String[] args) {
        cutAndPower();
        armNumbers();
        armCountsOverCalls();
        armAgain();
        cutEndsArming();
        partsAreWrittenFromTheEnd();
        firstPageWhenPowerCame();
        everyStepOfPut();
        everyStepOfShred();
        check.end();
    }

    private static void cutAndPower() {
        ShredStore store = new ShredStore();
        check.due("power, on", store.power(), false);
        Kit.supply(store, 1, 6);
        Kit.feed(store, 1, 8);
        check.due("cut", store.cut(), true);
        check.due("cut, off", store.cut(), false);
        check.due("count(0)", store.count(0), 0);
        check.due("count(1)", store.count(1), 0);
        check.due("count(2)", store.count(2), 0);
        check.due("power", store.power(), true);
        check.due("power, on", store.power(), false);
        check.due("count(0)", store.count(0), 1);
        check.due("count(1)", store.count(1), 0);
        check.due("count(2)", store.count(2), 0);
    }

    private static void armNumbers() {
        ShredStore store = new ShredStore();
        int[] wrong = {-1, 201, Integer.MAX_VALUE, Integer.MIN_VALUE};
        for (int n : wrong) {
            check.due("arm(" + n + ")", store.arm(n), false);
        }
        check.due("put behind wrong arms", Kit.put(store, 0, 1, 4, 1), 1);
        check.due("arm(0)", store.arm(0), true);
        check.due("count(0), armed with 0", store.count(0), 1);
        check.due("put, armed with 0", Kit.put(store, 0, 2, 4, 11), 0);
        check.due("steps", store.count(6), 17);
        check.due("arm, off", store.arm(5), false);
        store.power();
        check.due("arm(200)", store.arm(200), true);
        check.due("arm(201), armed", store.arm(201), false);
        for (int n = 0; n < 11; n++) {
            check.due("put " + n, Kit.put(store, 0, 2, 4, 100 + 4 * n), 1);
        }
        check.due("put, the 12th", Kit.put(store, 0, 2, 4, 900), 0);
        check.due("steps", store.count(6), 217);
    }

    private static void armCountsOverCalls() {
        ShredStore store = new ShredStore();
        store.arm(17);
        check.due("put, just done", Kit.put(store, 0, 1, 4, 1), 1);
        check.due("count(0)", store.count(0), 1);
        check.due("size", store.size(0), 4);
        Kit.supply(store, 11, 3);
        check.due("shred, no step left", store.shred(0), 0);
        check.due("count(0)", store.count(0), 0);
        store.power();
        Kit.supply(store, 21, 3);
        check.due("shred, not armed any more", store.shred(0), 1);
        check.due("steps", store.count(6), 22);
    }

    private static void armAgain() {
        ShredStore store = new ShredStore();
        store.arm(2);
        store.arm(20);
        check.due("put", Kit.put(store, 0, 1, 4, 1), 1);
        store.arm(200);
        store.arm(1);
        check.due("put", Kit.put(store, 0, 1, 4, 11), 0);
    }

    private static void cutEndsArming() {
        ShredStore store = new ShredStore();
        store.arm(3);
        store.cut();
        store.power();
        check.due("put", Kit.put(store, 0, 1, 4, 1), 1);
    }

    private static void partsAreWrittenFromTheEnd() {
        for (int n = 0; n <= 4; n++) {
            ShredStore store = new ShredStore();
            store.arm(n);
            check.due("put", Kit.put(store, 0, 1, 48, -9), 0);
            for (int part = 0; part < 4; part++) {
                int sum = 0;
                for (int i = 0; i < 16; i++) {
                    sum += store.disk(part * 16 + i);
                }
                check.due("part " + part + " with " + n, sum != 0, part >= 4 - n);
            }
            check.due("pages whole with " + n, store.count(5), n / 4);
            check.due("steps with " + n, store.count(6), n);
            check.due("page 1 untouched", store.disk(127), 0);
        }
    }

    private static void firstPageWhenPowerCame() {
        ShredStore store = new ShredStore();
        Kit.put(store, 0, 1, 4, 10);
        Kit.put(store, 0, 2, 4, 20);
        store.cut();
        store.power();
        Kit.put(store, 0, 3, 4, 30);
        check.due("cell(1)", store.cell(1), 3);
        Kit.duePage(check, store, 0, 2, 9, 30, Kit.data(65535, 4, 3));
        store.arm(6);
        Kit.put(store, 1, 3, 4, 40);
        check.due("page 4 is whole", Kit.number(Kit.diskOf(store), 4 * 64 + 1, 4), 13);
        check.due("page 5 has its old writing", Kit.number(Kit.diskOf(store), 5 * 64 + 1, 4), 6);
        store.power();
        Kit.put(store, 1, 3, 4, 50);
        Kit.duePage(check, store, 4, 2, 14, 50, Kit.data(65535, 4, 3));
        check.due("cell(1)", store.cell(1), 7);
    }

    private static void everyStepOfPut() {
        for (int n = 0; n <= 22; n++) {
            ShredStore store = filled();
            int[] disk = Kit.diskOf(store);
            Kit.supply(store, 1000, 4);
            Kit.feed(store, 100, 60);
            store.arm(n);
            boolean done = n >= 21;
            check.due("put with " + n, store.put(5, 60), done ? 1 : 0);
            check.due("power with " + n, store.count(0), done ? 1 : 0);
            dueLiveUntouched(store, disk, done);
            store.power();
            check.due("size(5) with " + n, store.size(5), done ? 60 : 10);
            check.due("at(5, 9) with " + n, store.at(5, 9), done ? 109 : 19);
            dueOthers(store);
            check.due("new key with " + n, store.known(1000), done);
            check.due("old key with " + n, store.known(10), !done);
            check.due("old root's key with " + n, store.known(33), !done);
            check.due("objects with " + n, store.count(4), 3);
        }
    }

    private static void everyStepOfShred() {
        for (int n = 0; n <= 14; n++) {
            ShredStore store = filled();
            int[] disk = Kit.diskOf(store);
            Kit.supply(store, 1000, 3);
            store.arm(n);
            boolean done = n >= 13;
            check.due("shred with " + n, store.shred(5), done ? 1 : 0);
            dueLiveUntouched(store, disk, done);
            store.power();
            check.due("size(5) with " + n, store.size(5), done ? ShredStore.NONE : 10);
            dueOthers(store);
            check.due("its key with " + n, store.known(10), !done);
            check.due("old root's key with " + n, store.known(33), !done);
            check.due("objects with " + n, store.count(4), done ? 2 : 3);
        }
    }

    private static ShredStore filled() {
        ShredStore store = new ShredStore();
        Kit.put(store, 5, 10, 10, 10);
        Kit.put(store, 6, 20, 90, 20);
        Kit.put(store, 60, 30, 5, 30);
        return store;
    }

    private static void dueOthers(ShredStore store) {
        check.due("size(6)", store.size(6), 90);
        check.due("at(6, 89)", store.at(6, 89), 109);
        check.due("size(60)", store.size(60), 5);
        check.due("at(60, 4)", store.at(60, 4), 34);
    }

    private static void dueLiveUntouched(ShredStore store, int[] before, boolean changed) {
        int[] now = Kit.diskOf(store);
        for (int i = 0; i < now.length; i++) {
            if (!changed && store.live(i / 64)) {
                check.due("disk(" + i + ")", now[i], before[i]);
            }
        }
    }
}
