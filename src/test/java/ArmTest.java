/** Promise 9: arm, and the Terms' steps. */
public final class ArmTest {
    private static final Check check = new Check();

    public static void main(String[] args) {
        with0();
        with200();
        notSuch();
        itIsOff();
        overCalls();
        justAsManyAsACallHas();
        partsFromTheEnd();
        cellIsTheLastStep();
        onceAlone();
        armedAnew();
        readsAndRefusalsAreNoSteps();
        rowAndTapeAreEmpty();
        check.end();
    }

    private static void with0() {
        check.sentence("armed with n, n steps more are done, and it goes with the next one, which is not done: n = 0");
        Subject s = new Subject();
        check.due("arm(0)", s.arm(0), true);
        check.due("count(0), armed", s.count(0), 1);
        check.due("put", Kit.put(s, 0, 255, 48, -9), 0);
        check.due("count(0)", s.count(0), 0);
        check.due("count(6)", s.count(6), 0);
        check.due("count(5)", s.count(5), 0);
        for (int i = 0; i < 64; i++) {
            check.due("disk(" + i + ")", s.disk(i), 0);
        }
    }

    private static void with200() {
        check.sentence("n (0 .. 200): n = 200");
        Subject s = new Subject();
        check.due("arm(200)", s.arm(200), true);
        for (int n = 0; n < 11; n++) {
            check.due("put " + n, Kit.put(s, 0, 2, 4, 100 + 4 * n), 1);
        }
        check.due("count(6)", s.count(6), 187);
        check.due("put, the 12th", Kit.put(s, 0, 2, 4, 900), 0);
        check.due("count(6)", s.count(6), 200);
        check.due("count(5)", s.count(5), 47);
        check.due("count(0)", s.count(0), 0);
    }

    private static void notSuch() {
        check.sentence("false: not such");
        int[] wrong = {-1, -2, 201, 202, 456, Integer.MIN_VALUE, Integer.MIN_VALUE + 1, Integer.MAX_VALUE};
        for (int n : wrong) {
            Subject s = new Subject();
            check.due("arm(" + n + ")", s.arm(n), false);
            for (int k = 0; k < 30; k++) {
                check.due("put behind arm(" + n + ")", Kit.put(s, 0, 1, 0, 1 + 4 * k), 1);
            }
            s.arm(3);
            check.due("arm(" + n + "), armed", s.arm(n), false);
            check.due("put, still armed", Kit.put(s, 0, 1, 0, 1000), 0);
            check.due("count(6)", s.count(6), 30 * 17 + 3);
        }
    }

    private static void itIsOff() {
        check.sentence("false: it is off");
        int[] all = {-1, 0, 1, 200, 201};
        for (int n : all) {
            Subject s = new Subject();
            s.cut();
            check.due("arm(" + n + "), off", s.arm(n), false);
            s.power();
            for (int k = 0; k < 20; k++) {
                check.due("put, the power came", Kit.put(s, 0, 1, 0, 1 + 4 * k), 1);
            }
        }
    }

    private static void overCalls() {
        check.sentence("n steps more are done: of as many calls as it takes");
        Subject s = new Subject();
        Kit.put(s, 0, 1, 4, 1);
        s.arm(40);
        check.due("put", Kit.put(s, 1, 1, 4, 11), 1);
        check.due("shred", Kit.shred(s, 1, 21), 1);
        check.due("count(6)", s.count(6), 17 + 17 + 13);
        check.due("put", Kit.put(s, 2, 1, 4, 31), 0);
        check.due("count(6)", s.count(6), 57);
        check.due("count(5)", s.count(5), 4 + 4 + 3 + 2);
        s.power();
        check.due("size(0)", s.size(0), 4);
        check.due("size(1)", s.size(1), ShredStore.NONE);
        check.due("size(2)", s.size(2), ShredStore.NONE);
    }

    private static void justAsManyAsACallHas() {
        check.sentence("it goes with the next one: not before there is one");
        Subject s = new Subject();
        s.arm(17);
        check.due("put", Kit.put(s, 0, 1, 4, 1), 1);
        check.due("count(0)", s.count(0), 1);
        check.due("size", s.size(0), 4);
        Kit.supply(s, 11, 3);
        check.due("count(0)", s.count(0), 1);
        check.due("shred, no step left", s.shred(0), 0);
        check.due("count(0)", s.count(0), 0);
        check.due("count(6)", s.count(6), 17);
        s.power();
        check.due("size", s.size(0), 4);
    }

    private static void partsFromTheEnd() {
        check.sentence("16 bytes of a page being written (the last ones first, those with its kind at last)");
        for (int n = 0; n <= 5; n++) {
            Subject s = new Subject();
            s.arm(n);
            check.due("put", Kit.put(s, 0, 1, 48, -9), 0);
            for (int part = 0; part < 8; part++) {
                int sum = 0;
                for (int i = 0; i < 16; i++) {
                    sum += s.disk(part * 16 + i);
                }
                boolean due = part < 4 ? part >= 4 - n : part == 7 && n == 5;
                check.due("part " + part + " behind " + n + " steps", sum != 0, due);
            }
            check.due("count(5)", s.count(5), n / 4);
            check.due("count(6)", s.count(6), n);
        }
    }

    private static void cellIsTheLastStep() {
        check.sentence("steps are: 16 bytes of a page, the cell");
        Subject s = new Subject();
        s.arm(16);
        check.due("put", Kit.put(s, 0, 1, 4, 1), 0);
        check.due("count(5)", s.count(5), 4);
        check.due("count(6)", s.count(6), 16);
        check.due("cell(0)", s.cell(0), 0);
        check.due("cell(1)", s.cell(1), ShredStore.NONE);
        check.due("disk(192), the root's kind", s.disk(192), 1);
        check.due("live(3)", s.live(3), false);
    }

    private static void onceAlone() {
        check.sentence("it goes with the next one: and not again when it came");
        for (int n = 0; n < 17; n++) {
            Subject s = new Subject();
            s.arm(n);
            check.due("put armed with " + n, Kit.put(s, 0, 1, 0, 1), 0);
            s.power();
            for (int k = 0; k < 20; k++) {
                check.due("put, not armed any more", Kit.put(s, 0, 1, 0, 10 + 4 * k), 1);
            }
        }
    }

    private static void armedAnew() {
        check.sentence("the power goes with the step behind n more: n of the arm that was last");
        Subject s = new Subject();
        s.arm(2);
        check.due("arm(20)", s.arm(20), true);
        check.due("put", Kit.put(s, 0, 1, 4, 1), 1);
        s.arm(200);
        check.due("arm(1)", s.arm(1), true);
        check.due("put", Kit.put(s, 0, 1, 4, 11), 0);
        check.due("count(6)", s.count(6), 18);
    }

    private static void readsAndRefusalsAreNoSteps() {
        check.sentence("steps are the writing of bytes and of the cell, and nothing else");
        Subject s = new Subject();
        Kit.put(s, 0, 1, 4, 1);
        s.arm(17);
        Kit.supply(s, 11, 4);
        Kit.feed(s, 1, 8);
        int got = s.size(0) + s.at(0, 0) + s.disk(0) + (int) s.cell(0) + (int) s.knownAt(0) + s.count(3);
        check.due("sum of answers", got, 4 + 1 + 2 + 4 + 4 + 4);
        check.due("known(1)", s.known(1), true);
        check.due("live(0)", s.live(0), true);
        check.due("power()", s.power(), false);
        check.due("put(64, 0)", s.put(64, 0), ShredStore.BAD);
        check.due("put(0, 9)", s.put(0, 9), ShredStore.BAD);
        check.due("shred(1)", s.shred(1), ShredStore.BAD);
        check.due("count(6)", s.count(6), 17);
        check.due("put, 17 steps", s.put(1, 8), 1);
        check.due("put, none left", Kit.put(s, 1, 1, 4, 21), 0);
        check.due("count(6)", s.count(6), 34);
    }

    private static void rowAndTapeAreEmpty() {
        check.sentence("row and tape are empty when the armed power goes");
        Subject s = new Subject();
        Kit.put(s, 0, 1, 4, 1);
        Kit.supply(s, 11, 8);
        Kit.feed(s, 1, 8);
        s.arm(2);
        check.due("shred", s.shred(0), 0);
        check.due("count(1)", s.count(1), 0);
        check.due("count(2)", s.count(2), 0);
        s.power();
        check.due("count(1), on", s.count(1), 0);
        check.due("count(2), on", s.count(2), 0);
        Kit.supply(s, 31, 8);
        Kit.feed(s, 1, 8);
        s.arm(2);
        check.due("put", s.put(0, 1), 0);
        check.due("count(1)", s.count(1), 0);
        check.due("count(2)", s.count(2), 0);
    }
}
