/** Promise 13: known. */
public final class KnownTest {
    private static final Check check = new Check();

    public static void main(String[] args) {
        keyZero();
        cellWithoutAKey();
        suppliedKeys();
        cellsKeyAndEntries();
        dataTellsNoKeys();
        keysOfOldNodesThatAreStillInTheTree();
        keysThatWereReplaced();
        keysThatWereShredded();
        keysWrittenInVain();
        keysOfPagesWrittenOver();
        whenThePowerIsOff();
        otherNumbers();
        check.end();
    }

    private static void dueKnown(Subject s, long from, long to, boolean want) {
        for (long key = from; key <= to; key++) {
            check.due("known(" + key + ")", s.known(key), want);
        }
    }

    private static void keyZero() {
        check.sentence("the key 0 is none: not the cell's (not 0), and not that of an entry that is none");
        Subject s = new Subject();
        check.due("known(0), new", s.known(0), false);
        Kit.put(s, 0, 1, 4, 1);
        check.due("known(0)", s.known(0), false);
        Kit.shred(s, 0, 11);
        check.due("known(0), the root empty", s.known(0), false);
    }

    private static void cellWithoutAKey() {
        check.sentence("the cell's key (not 0): a cell without a key tells nothing");
        Subject s = new Subject();
        s.arm(16);
        check.due("put", Kit.put(s, 0, 1, 4, 1), 0);
        dueKnown(s, 0, 4, false);
        check.due("count(7)", s.count(7), 0);
        check.due("knownAt(0)", s.knownAt(0), 0);
    }

    private static void suppliedKeys() {
        check.sentence("can be come to from the cell's key and all bytes of the disk: not from the row");
        Subject s = new Subject();
        Kit.supply(s, 1, 8);
        dueKnown(s, 1, 8, false);
        s.put(0, 0);
        dueKnown(s, 1, 4, true);
        dueKnown(s, 5, 8, false);
    }

    private static void cellsKeyAndEntries() {
        check.sentence("the cell's key, and all keys of entries of nodes that one of these fits, step by step");
        long[] firsts = {1, -100, Long.MIN_VALUE, Long.MAX_VALUE - 3, 1L << 40};
        for (long first : firsts) {
            Subject s = new Subject();
            Kit.put(s, 63, 1, 96, first);
            dueKnown(s, first, first + 2, true);
            check.due("known(the cell's)", s.known(first + 3), true);
            check.due("known(one less)", s.known(first - 1), false);
        }
    }

    private static void dataTellsNoKeys() {
        check.sentence("all keys of entries of nodes: a page of data is none");
        Subject s = new Subject();
        Kit.put(s, 0, 1, 96, 1000);
        check.due("count(7)", s.count(7), 4);
        // what the first page of data would tell if it were a node: its first eight bytes, and those behind ten
        check.due("known(bytes 0 to 7)", s.known(0x0000300102030405L), false);
        check.due("known(bytes 10 to 17)", s.known(0x08090A0B0C0D0E0FL), false);
    }

    private static void keysOfOldNodesThatAreStillInTheTree() {
        check.sentence("keys that old bytes of the disk still tell");
        Subject s = new Subject();
        Kit.put(s, 63, 1, 4, 10);
        Kit.put(s, 40, 1, 4, 20);
        for (int n = 0; n < 20; n++) {
            Kit.put(s, 0, 1, 4, 100 + 4 * n);
        }
        dueKnown(s, 10, 12, true);
        dueKnown(s, 13, 13, false);
        dueKnown(s, 20, 22, true);
        dueKnown(s, 23, 23, false);
        dueKnown(s, 100, 175, false);
        dueKnown(s, 176, 179, true);
    }

    private static void keysThatWereReplaced() {
        check.sentence("what was left out can't be come to any more: an object that was put anew");
        Subject s = new Subject();
        Kit.put(s, 0, 1, 4, 10);
        Kit.put(s, 1, 1, 4, 20);
        Kit.put(s, 0, 2, 4, 30);
        dueKnown(s, 10, 13, false);
        dueKnown(s, 20, 20, true);
        dueKnown(s, 21, 23, false);
        dueKnown(s, 30, 33, true);
    }

    private static void keysThatWereShredded() {
        check.sentence("what was left out can't be come to any more: an object that was shredded");
        Subject s = new Subject();
        Kit.put(s, 0, 1, 4, 10);
        Kit.put(s, 1, 1, 4, 20);
        Kit.shred(s, 0, 30);
        dueKnown(s, 10, 13, false);
        dueKnown(s, 20, 20, true);
        dueKnown(s, 21, 23, false);
        dueKnown(s, 30, 32, true);
        Kit.shred(s, 1, 40);
        dueKnown(s, 10, 32, false);
        dueKnown(s, 40, 40, true);
        dueKnown(s, 41, 42, false);
    }

    private static void keysWrittenInVain() {
        check.sentence("wherever the power goes: the old keys can be come to, and none of the new ones");
        for (int n = 0; n < 17; n++) {
            Subject s = new Subject();
            Kit.put(s, 0, 1, 4, 10);
            s.arm(n);
            check.due("put", Kit.put(s, 0, 2, 4, 20), 0);
            dueKnown(s, 10, 13, true);
            dueKnown(s, 20, 23, false);
            s.power();
            dueKnown(s, 10, 13, true);
            dueKnown(s, 20, 23, false);
            check.due("put", Kit.put(s, 0, 2, 4, 30), 1);
            dueKnown(s, 10, 13, false);
            dueKnown(s, 20, 23, false);
            dueKnown(s, 30, 33, true);
        }
    }

    private static void keysOfPagesWrittenOver() {
        check.sentence("keys such as old bytes of the disk no longer tell: their pages have been written over");
        Subject s = new Subject();
        for (int n = 0; n < 60; n++) {
            Kit.put(s, 9, 1, 0, 1 + 4 * n);
        }
        dueKnown(s, 237, 240, true);
        dueKnown(s, 1, 80, false);
        check.due("count(7)", s.count(7), 4);
    }

    private static void whenThePowerIsOff() {
        check.sentence("whether a key can be come to: the power is not asked for");
        Subject s = new Subject();
        Kit.put(s, 0, 1, 4, 10);
        s.cut();
        dueKnown(s, 10, 13, true);
        dueKnown(s, 14, 14, false);
        check.due("known(0)", s.known(0), false);
    }

    private static void otherNumbers() {
        check.sentence("whether a key can be come to: all of its 64 bits count");
        Subject s = new Subject();
        Kit.put(s, 0, 1, 4, 10);
        check.due("known(10 + 2^32)", s.known(10 + (1L << 32)), false);
        check.due("known(10 + 2^63)", s.known(10 + Long.MIN_VALUE), false);
        check.due("known(-1)", s.known(-1), false);
        check.due("known(least)", s.known(Long.MIN_VALUE), false);
        check.due("known(greatest)", s.known(Long.MAX_VALUE), false);
    }
}
