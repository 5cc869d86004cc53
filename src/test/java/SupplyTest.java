/** Promise 2: supply. */
public final class SupplyTest {
    private static final Check check = new Check();

    public static void main(String[] args) {
        zeroIsNoKey();
        keysHave64Bits();
        anyKeyInAnyPlace();
        behindTheRow();
        suppliedBeforeAndInTheRow();
        suppliedBeforeAndTaken();
        suppliedBeforeAndLostByCut();
        suppliedBeforeAndLostByArming();
        suppliedLongBefore();
        thereAre40();
        refusedKeysWereNotTakenIn();
        powerIsOff();
        refusalsChangeNothing();
        check.end();
    }

    private static void zeroIsNoKey() {
        check.sentence("false: it is 0");
        Subject s = new Subject();
        check.due("supply(0)", s.supply(0), false);
        check.due("count(1)", s.count(1), 0);
        check.due("supply(0) again", s.supply(0), false);
        Kit.supply(s, 1, 2);
        check.due("supply(0), behind others", s.supply(0), false);
        check.due("count(1)", s.count(1), 2);
    }

    private static void keysHave64Bits() {
        check.sentence("keys are numbers of 64 bits but 0");
        Subject s = new Subject();
        long[] keys = {1, -1, Long.MIN_VALUE, Long.MAX_VALUE, 1L << 32, (1L << 32) + 1, -1L >>> 32, -1L << 32};
        for (int k = 0; k < keys.length; k++) {
            check.due("supply(" + keys[k] + ")", s.supply(keys[k]), true);
            check.due("count(1)", s.count(1), k + 1);
        }
        for (long key : keys) {
            check.due("supply(" + key + ") again", s.supply(key), false);
        }
        s.put(0, 0);
        s.put(1, 0);
        check.due("cell(0)", s.cell(0), -1L << 32);
        check.due("known(1)", s.known(1), true);
        check.due("known(2^32)", s.known(1L << 32), true);
    }

    private static void anyKeyInAnyPlace() {
        check.sentence("keys are numbers of 64 bits but 0: each of them for an object and for each node");
        long[] keys = {1, 2, -1, -2, Long.MIN_VALUE, Long.MAX_VALUE, 65535, 1L << 32, -1L << 32, -1L >>> 32};
        for (long key : keys) {
            for (int place = 0; place < 4; place++) {
                Subject s = new Subject();
                Kit.put(s, 6, 1, 4, 1000);
                Kit.supply(s, 2000, place);
                check.due("supply(" + key + ")", s.supply(key), true);
                Kit.supply(s, 2000 + place, 3 - place);
                Kit.feed(s, 50, 60);
                String name = "key " + key + " in place " + place;
                check.due(name + ", put", s.put(5, 60), 1);
                check.due(name + ", size", s.size(5), 60);
                check.due(name + ", at", s.at(5, 59), 109);
                check.due(name + ", size of another", s.size(6), 4);
                check.due(name + ", live pages", s.count(3), 6);
                check.due(name + ", keys known", s.count(7), 5);
                check.due(name + ", known", s.known(key), true);
                check.due(name + ", knownAt", place == 3 ? s.knownAt(0) == key : s.knownAt(0) == 2002, true);
                check.due(name + ", shred", Kit.shred(s, 5, 3000), 1);
                check.due(name + ", known, shredded", s.known(key), false);
                check.due(name + ", size of another, shredded", s.size(6), 4);
            }
        }
    }

    private static void behindTheRow() {
        check.sentence("a key comes behind the row; keys are taken from its front");
        Picture p = Picture.of(s -> {
            long[] keys = {70, 30, 90, 10, 50, 20, 80, 40};
            for (int k = 0; k < keys.length; k++) {
                check.due("supply", s.supply(keys[k]), true);
                check.due("count(1)", s.count(1), k + 1);
            }
            s.put(0, 0);
            check.due("count(1)", s.count(1), 4);
            check.due("cell(0)", s.cell(0), 10);
            s.supply(60);
            s.put(1, 0);
            check.due("count(1)", s.count(1), 1);
            check.due("cell(0)", s.cell(0), 40);
        });
        p.duePage(check, 0, 2, 1, 70, Kit.data(Kit.LAST, 0, 0));
        p.duePage(check, 5, 1, 6, 20, Kit.node(70, 0, 50, 4));
        p.duePage(check, 6, 1, 7, 80, Kit.nodeWith(0, 20, 5));
        p.duePage(check, 7, 1, 8, 40, Kit.nodeWith(0, 80, 6));
    }

    private static void suppliedBeforeAndInTheRow() {
        check.sentence("false: was supplied before, and is in the row");
        Subject s = new Subject();
        Kit.supply(s, 1, 3);
        for (long key = 1; key <= 3; key++) {
            check.due("supply(" + key + ")", s.supply(key), false);
        }
        check.due("count(1)", s.count(1), 3);
        check.due("supply(4)", s.supply(4), true);
    }

    private static void suppliedBeforeAndTaken() {
        check.sentence("false: was supplied before, and has been taken");
        Subject s = new Subject();
        Kit.put(s, 0, 1, 0, 1);
        Kit.shred(s, 0, 5);
        for (long key = 1; key <= 7; key++) {
            check.due("supply(" + key + ")", s.supply(key), false);
        }
        check.due("count(1)", s.count(1), 2);
    }

    private static void suppliedBeforeAndLostByCut() {
        check.sentence("false: was supplied before, and was lost when the power was cut");
        Subject s = new Subject();
        Kit.supply(s, 1, 3);
        s.cut();
        s.power();
        for (long key = 1; key <= 3; key++) {
            check.due("supply(" + key + ")", s.supply(key), false);
        }
        check.due("count(1)", s.count(1), 0);
        check.due("supply(4)", s.supply(4), true);
    }

    private static void suppliedBeforeAndLostByArming() {
        check.sentence("false: was supplied before, and was lost when the armed power went");
        Subject s = new Subject();
        Kit.supply(s, 1, 6);
        s.arm(5);
        check.due("put", s.put(0, 0), 0);
        s.power();
        for (long key = 1; key <= 6; key++) {
            check.due("supply(" + key + ")", s.supply(key), false);
        }
    }

    private static void suppliedLongBefore() {
        check.sentence("was supplied before (of the first 3000 that were taken in): as many as 512 calls can supply");
        for (long asked = 1; asked <= 480; asked += 479 / 3) {
            Subject s = new Subject();
            for (int n = 0; n < 12; n++) {
                Kit.supply(s, 1 + 40 * n, 40);
                s.cut();
                s.power();
            }
            check.due("supply(" + asked + ")", s.supply(asked), false);
            check.due("supply(480)", s.supply(480), false);
            check.due("supply(481)", s.supply(481), true);
            check.due("supply(481) again", s.supply(481), false);
        }
    }

    private static void thereAre40() {
        check.sentence("false: there are 40");
        Subject s = new Subject();
        Kit.supply(s, 1, 38);
        check.due("supply, the 39th", s.supply(39), true);
        check.due("supply, the 40th", s.supply(40), true);
        check.due("count(1)", s.count(1), 40);
        check.due("supply, the 41st", s.supply(41), false);
        check.due("count(1)", s.count(1), 40);
        check.due("put", s.put(0, 0), 1);
        check.due("count(1)", s.count(1), 36);
        Kit.supply(s, 42, 4);
        check.due("supply, the 41st again", s.supply(99), false);
        for (int n = 0; n < 10; n++) {
            check.due("put " + n, s.put(0, 0), 1);
            check.due("cell(0)", s.cell(0), n < 9 ? 8 + 4 * n : 45);
        }
    }

    private static void refusedKeysWereNotTakenIn() {
        check.sentence("was supplied before (of those that were taken in): a refused key was not");
        Subject s = new Subject();
        Kit.supply(s, 1, 40);
        check.due("supply, the 41st", s.supply(41), false);
        s.put(0, 0);
        check.due("supply of it again", s.supply(41), true);
        Subject off = new Subject();
        off.cut();
        check.due("supply, off", off.supply(41), false);
        off.power();
        check.due("supply of it, on", off.supply(41), true);
    }

    private static void powerIsOff() {
        check.sentence("false: the power is off");
        Subject s = new Subject();
        Kit.supply(s, 1, 2);
        s.cut();
        check.due("supply, off", s.supply(3), false);
        check.due("count(1)", s.count(1), 0);
        s.power();
        check.due("count(1)", s.count(1), 0);
        check.due("supply, on", s.supply(4), true);
        check.due("count(1)", s.count(1), 1);
    }

    private static void refusalsChangeNothing() {
        check.sentence("supply that answers false: no key comes behind the row");
        Run after = s -> {
            s.power();
            Kit.supply(s, 500, 4);
            s.put(7, 0);
        };
        Run some = s -> {
            Kit.put(s, 0, 1, 4, 10);
            Kit.supply(s, 20, 2);
            Kit.feed(s, 1, 8);
        };
        Refusal.due(check, "supply(0)", some, s -> s.supply(0) ? 1 : 0, 0, after);
        Refusal.due(check, "supply(21)", some, s -> s.supply(21) ? 1 : 0, 0, after);
        Refusal.due(check, "supply(9), off", some.then(s -> s.cut()), s -> s.supply(9) ? 1 : 0, 0, after);
        Run full = some.then(s -> Kit.supply(s, 22, 38));
        Refusal.due(check, "supply(9), 40 there", full, s -> s.supply(9) ? 1 : 0, 0, s -> s.put(1, 8));
    }
}
