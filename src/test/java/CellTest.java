/** Promise 12: cell. */
public final class CellTest {
    private static final Check check = new Check();

    public static void main(String[] args) {
        atFirst();
        keyAndPage();
        anotherNumber();
        staysWhenThePowerGoes();
        notBeforeItsStep();
        check.end();
    }

    private static void atFirst() {
        check.sentence("the cell: 0 and NONE at first");
        Subject s = new Subject();
        check.due("cell(0)", s.cell(0), 0);
        check.due("cell(1)", s.cell(1), ShredStore.NONE);
        s.cut();
        check.due("cell(0), off", s.cell(0), 0);
        check.due("cell(1), off", s.cell(1), ShredStore.NONE);
    }

    private static void keyAndPage() {
        check.sentence("what = 0 the key, 1 the page");
        long[] roots = {4, -1, Long.MIN_VALUE, Long.MAX_VALUE, 0x100000000L, 0x123456789ABCDEF0L};
        for (long root : roots) {
            Subject s = new Subject();
            Kit.supply(s, 1, 3);
            s.supply(root);
            s.put(0, 0);
            check.due("cell(0)", s.cell(0), root);
            check.due("cell(1)", s.cell(1), 3);
            Kit.put(s, 0, 1, 49, 1000);
            check.due("cell(0)", s.cell(0), 1003);
            check.due("cell(1)", s.cell(1), 8);
            Kit.shred(s, 0, 2000);
            check.due("cell(0)", s.cell(0), 2000);
            check.due("cell(1)", s.cell(1), 9);
        }
    }

    private static void anotherNumber() {
        check.sentence("0 for another number");
        for (int put = 0; put < 2; put++) {
            Subject s = new Subject();
            if (put == 1) {
                Kit.put(s, 0, 1, 0, 10);
            }
            check.due("cell(-1)", s.cell(-1), 0);
            check.due("cell(2)", s.cell(2), 0);
            check.due("cell(3)", s.cell(3), 0);
            for (int what : Kit.FAR) {
                check.due("cell(" + what + ")", s.cell(what), 0);
            }
        }
    }

    private static void staysWhenThePowerGoes() {
        check.sentence("it stays when the power goes");
        Subject s = new Subject();
        Kit.put(s, 0, 1, 0, 10);
        s.cut();
        check.due("cell(0), off", s.cell(0), 13);
        check.due("cell(1), off", s.cell(1), 3);
        check.due("cell(2), off", s.cell(2), 0);
        s.power();
        check.due("cell(0), on", s.cell(0), 13);
        check.due("cell(1), on", s.cell(1), 3);
    }

    private static void notBeforeItsStep() {
        check.sentence("then the cell gets the root's key and page: both with one step, the last");
        Subject s = new Subject();
        Kit.put(s, 0, 1, 0, 10);
        s.arm(16);
        check.due("put", Kit.put(s, 0, 1, 0, 20), 0);
        check.due("cell(0)", s.cell(0), 13);
        check.due("cell(1)", s.cell(1), 3);
        s.power();
        s.arm(17);
        check.due("put", Kit.put(s, 0, 1, 0, 30), 1);
        check.due("cell(0)", s.cell(0), 33);
        check.due("cell(1)", s.cell(1), 7);
    }
}
