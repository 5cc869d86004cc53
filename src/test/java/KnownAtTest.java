/** Promise 14: knownAt. */
public final class KnownAtTest {
    private static final Check check = new Check();

    public static void main(String[] args) {
        noneAtFirst();
        cellsFirst();
        entriesInTheirOrder();
        pagesFrom0On();
        pagesAgainAndAgain();
        eachOnce();
        emptyRoot();
        firstLastAndOneMore();
        whenThePowerIsOff();
        leftOutKeys();
        check.end();
    }

    private static void due(Subject s, long... want) {
        check.due("count(7)", s.count(7), want.length);
        for (int k = 0; k < want.length; k++) {
            check.due("knownAt(" + k + ")", s.knownAt(k), want[k]);
        }
        int[] outside = {want.length, want.length + 1, 200, 801, -1};
        for (int k : outside) {
            check.due("knownAt(" + k + ")", s.knownAt(k), 0);
        }
    }

    private static void noneAtFirst() {
        check.sentence("0 when there is none such: a cell without a key");
        Subject s = new Subject();
        due(s);
        Kit.supply(s, 1, 4);
        due(s);
    }

    private static void cellsFirst() {
        check.sentence("the cell's first");
        Subject s = new Subject();
        Kit.put(s, 0, 1, 4, 1);
        due(s, 4, 3, 2, 1);
    }

    private static void entriesInTheirOrder() {
        check.sentence("tell them by their entries: in the order in which these stand");
        int[] objects = {3, 1, 0, 2};
        Subject s = new Subject();
        for (int object : objects) {
            Kit.put(s, object, 1, 0, 10 + 10 * object);
        }
        due(s, 33, 32, 31, 10, 20, 30, 40);
    }

    private static void pagesFrom0On() {
        check.sentence("as pages (from 0 on ..) tell them");
        Subject s = new Subject();
        Kit.put(s, 63, 1, 4, 10);
        Kit.put(s, 0, 1, 4, 20);
        // nodes: 11 on page 1, 12 on page 2, 21 on page 5, 22 on page 6, the root 23 on page 7;
        // first 7 tells 22 and 12, then 2 tells 11 and 6 tells 21, then 1 tells 10 and 5 tells 20
        due(s, 23, 22, 12, 11, 21, 10, 20);
    }

    private static void pagesAgainAndAgain() {
        check.sentence("as pages (from 0 on, again and again ..) tell them");
        Subject s = new Subject();
        Kit.put(s, 63, 1, 4, 10);
        Kit.put(s, 63, 1, 4, 20);
        s.cut();
        s.power();
        Kit.put(s, 0, 1, 4, 30);
        // nodes: 31 on page 1, 32 on page 2, the root 33 on page 3, 21 on page 5, 22 on page 6;
        // first 3 tells 32 and 22, and 6 tells 21; then 2 tells 31 and 5 tells 20; then 1 tells 30
        check.due("cell(1)", s.cell(1), 3);
        due(s, 33, 32, 22, 21, 31, 20, 30);
    }

    private static void eachOnce() {
        check.sentence("(.. each once)");
        Subject s = new Subject();
        for (int object = 0; object < 40; object++) {
            Kit.put(s, object, 1, 0, 1 + 4 * object);
        }
        int all = s.count(7);
        check.due("count(7)", all, 40 + 10 + 3 + 1);
        long[] keys = new long[all];
        for (int k = 0; k < all; k++) {
            keys[k] = s.knownAt(k);
            check.due("known(" + keys[k] + ")", s.known(keys[k]), true);
            for (int other = 0; other < k; other++) {
                check.due("knownAt(" + k + ") as knownAt(" + other + ")", keys[k] == keys[other], false);
            }
        }
    }

    private static void emptyRoot() {
        check.sentence("the cell's first, when no entry tells another");
        Subject s = new Subject();
        Kit.put(s, 0, 1, 4, 1);
        Kit.shred(s, 0, 11);
        due(s, 11);
    }

    private static void firstLastAndOneMore() {
        check.sentence("the k-th of these keys; 0 when there is none such: first, last, one more, a negative number");
        Subject s = new Subject();
        for (int object = 0; object < 64; object++) {
            Kit.put(s, object, 1, 0, 1 + 4 * object);
        }
        check.due("count(7)", s.count(7), 85);
        check.due("knownAt(0)", s.knownAt(0), 256);
        check.due("knownAt(84)", s.knownAt(84) != 0, true);
        check.due("knownAt(85)", s.knownAt(85), 0);
        check.due("knownAt(86)", s.knownAt(86), 0);
        check.due("knownAt(-1)", s.knownAt(-1), 0);
        for (int k : Kit.FAR) {
            check.due("knownAt(" + k + ")", s.knownAt(k), 0);
        }
    }

    private static void whenThePowerIsOff() {
        check.sentence("the k-th of these keys: the power is not asked for");
        Subject s = new Subject();
        Kit.put(s, 0, 1, 4, 1);
        s.cut();
        due(s, 4, 3, 2, 1);
    }

    private static void leftOutKeys() {
        check.sentence("the k-th of these keys: those that are left out are none of them");
        Subject s = new Subject();
        Kit.put(s, 0, 1, 4, 10);
        Kit.put(s, 1, 1, 4, 20);
        due(s, 23, 22, 21, 10, 20);
        Kit.shred(s, 0, 30);
        due(s, 32, 31, 30, 20);
        Kit.supply(s, 40, 4);
        s.arm(16);
        check.due("put", s.put(1, 0), 0);
        due(s, 32, 31, 30, 20);
        s.power();
        Kit.shred(s, 1, 50);
        due(s, 50);
    }
}
