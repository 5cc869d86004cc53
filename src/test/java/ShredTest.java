/** Promise 5: shred. */
public final class ShredTest {
    private static final Check check = new Check();

    public static void main(String[] args) {
        oneOfANode();
        lastOfANode();
        lastOfTheNodeAbove();
        lastOfTheRoot();
        allOfANodeOneByOne();
        putBehindTheLast();
        tapeStays();
        oldBytesStay();
        wentWithEachStep();
        doneWithAllSteps();
        notThere();
        rowHasFewerThanThree();
        powerIsOff();
        manyPagesAreLive();
        check.end();
    }

    /** Pages 0 to 3, 4 to 7 and so on. */
    private static Run puts(int... objects) {
        return s -> {
            for (int n = 0; n < objects.length; n++) {
                Kit.put(s, objects[n], 50 + n, 4, 10 + 10 * n);
            }
        };
    }

    private static Run shredding(int object) {
        return s -> {
            Kit.supply(s, 100, 5);
            check.due("shred(" + object + ")", s.shred(object), 1);
        };
    }

    private static void oneOfANode() {
        check.sentence("to shred it: the branch, without it");
        Picture p = Picture.of(puts(4, 7).then(shredding(4)));
        p.duePage(check, 8, 1, 9, 100, Kit.nodeWith(3, 20, 4));
        p.duePage(check, 9, 1, 10, 101, Kit.nodeWith(1, 100, 8));
        p.duePage(check, 10, 1, 11, 102, Kit.nodeWith(0, 101, 9));
        p.dueCounts(check, "shred", 1, 2, 0, 4, 1, 11, 47, 4);
        p.dueKnown(check, "shred", 102, 101, 100, 20);
        p.dueLive(check, "shred", 4, 8, 9, 10);
        check.due("cell(0)", p.cell[0], 102);
        check.due("cell(1)", p.cell[1], 10);
        check.due("size(4)", p.sizes[4], ShredStore.NONE);
        check.due("size(7)", p.sizes[7], 4);
    }

    private static void lastOfANode() {
        check.sentence("one in which no entry is left is not written (and takes no key): the entry above is none");
        Picture p = Picture.of(puts(16, 31).then(shredding(16)));
        p.duePage(check, 8, 1, 9, 100, Kit.nodeWith(3, 21, 5));
        p.duePage(check, 9, 1, 10, 101, Kit.nodeWith(1, 100, 8));
        p.dueCounts(check, "shred", 1, 3, 0, 4, 1, 10, 43, 4);
        p.dueLive(check, "shred", 4, 5, 8, 9);
        check.due("cell(0)", p.cell[0], 101);
        check.due("cell(1)", p.cell[1], 9);
        check.due("size(16)", p.sizes[16], ShredStore.NONE);
        check.due("size(31)", p.sizes[31], 4);
    }

    private static void lastOfTheNodeAbove() {
        check.sentence("the last object of the node above: neither node is written, the root's entry is none");
        Picture p = Picture.of(puts(0, 63).then(shredding(0)));
        p.duePage(check, 8, 1, 9, 100, Kit.nodeWith(3, 22, 6));
        p.dueCounts(check, "shred", 1, 4, 0, 4, 1, 9, 39, 4);
        p.dueLive(check, "shred", 4, 5, 6, 8);
        check.due("cell(0)", p.cell[0], 100);
        check.due("cell(1)", p.cell[1], 8);
        check.due("size(0)", p.sizes[0], ShredStore.NONE);
        check.due("size(63)", p.sizes[63], 4);
    }

    private static void lastOfTheRoot() {
        check.sentence("the last object of the root: (the root excepted)");
        Picture p = Picture.of(puts(33).then(shredding(33)));
        p.duePage(check, 4, 1, 5, 100, Kit.node());
        p.dueCounts(check, "shred", 1, 4, 0, 1, 0, 5, 22, 1);
        p.dueLive(check, "shred", 4);
        p.dueKnown(check, "shred", 100);
        check.due("cell(0)", p.cell[0], 100);
        check.due("cell(1)", p.cell[1], 4);
    }

    private static void allOfANodeOneByOne() {
        check.sentence("one in which no entry is left: not before all four are gone, whichever goes last");
        for (int last = 0; last < 4; last++) {
            Subject s = new Subject();
            puts(12, 13, 14, 15).on(s);
            int pages = 16;
            for (int n = 1; n <= 4; n++) {
                int object = 12 + (last + n) % 4;
                check.due("shred(" + object + ")", Kit.shred(s, object, 100 + 10 * n), 1);
                pages += n < 4 ? 3 : 1;
                check.due("count(5)", s.count(5), pages);
                check.due("count(4)", s.count(4), 4 - n);
                check.due("count(1)", s.count(1), n < 4 ? 0 : 2);
                check.due("size(" + object + ")", s.size(object), ShredStore.NONE);
            }
        }
    }

    private static void putBehindTheLast() {
        check.sentence("a node that is not there has no entries: also one that was left out");
        Picture p = Picture.of(puts(33).then(shredding(33)).then(s -> {
            s.supply(200);
            check.due("put(34, 0)", s.put(34, 0), 1);
        }));
        p.duePage(check, 5, 2, 6, 101, Kit.data(Kit.LAST, 0, 0));
        p.duePage(check, 6, 1, 7, 102, Kit.nodeWith(2, 101, 5));
        p.duePage(check, 7, 1, 8, 103, Kit.nodeWith(0, 102, 6));
        p.duePage(check, 8, 1, 9, 104, Kit.nodeWith(2, 103, 7));
        p.dueCounts(check, "put behind the last", 1, 1, 0, 4, 1, 9, 39, 4);
        check.due("size(33)", p.sizes[33], ShredStore.NONE);
    }

    private static void tapeStays() {
        check.sentence("an object is shredded: the tape is not asked for");
        Subject s = new Subject();
        puts(1, 2).on(s);
        Kit.feed(s, 90, 8);
        check.due("shred(1)", Kit.shred(s, 1, 100), 1);
        check.due("count(2)", s.count(2), 8);
        Kit.supply(s, 200, 4);
        check.due("put(1, 5)", s.put(1, 5), 1);
        check.due("at(1, 4)", s.at(1, 4), 94);
    }

    private static void oldBytesStay() {
        check.sentence("what was left out can't be come to from the cell and all the disk's bytes any more");
        Picture before = Picture.of(puts(1, 2));
        Picture p = Picture.of(puts(1, 2).then(shredding(1)));
        for (int i = 0; i < 8 * 64; i++) {
            check.due("disk(" + i + ")", p.disk[i], before.disk[i]);
        }
        check.due("the object's key fits its page", p.tag(0), Kit.pad(10, 1, 100));
        Subject s = new Subject();
        puts(1, 2).then(shredding(1)).on(s);
        for (long key = 10; key < 24; key++) {
            check.due("known(" + key + ")", s.known(key), key == 20);
        }
        check.due("live(0)", s.live(0), false);
    }

    private static Steps steps(String name, int shredded, int[] objects, int... pages) {
        return new Steps(check, name, puts(objects).then(s -> {
            Kit.supply(s, 100, 5);
            Kit.feed(s, 1, 8);
        }), s -> s.shred(shredded), pages);
    }

    private static Steps[] shreds() {
        return new Steps[] {
            steps("shred, one of a node", 5, new int[] {5, 6, 60}, 12, 13, 14),
            steps("shred, last of a node", 5, new int[] {5, 8, 60}, 12, 13),
            steps("shred, last of the node above", 5, new int[] {5, 60}, 8),
            steps("shred, last of the root", 5, new int[] {5}, 4)};
    }

    private static void wentWithEachStep() {
        check.sentence("0 when the power went");
        for (Steps shred : shreds()) {
            shred.dueWentWithEach();
        }
    }

    private static void doneWithAllSteps() {
        check.sentence("1, when the power did not go");
        for (Steps shred : shreds()) {
            shred.dueDoneWithAll();
        }
    }

    private static void dueRefused(String name, Run before, int object) {
        Refusal.due(check, name, before, s -> s.shred(object), ShredStore.BAD, s -> {
            s.power();
            Kit.supply(s, 200, 4);
            check.due("put behind " + name, s.put(1, 0), 1);
        });
    }

    private static void notThere() {
        check.sentence("BAD, and nothing happens: it is not there");
        Run ready = puts(5, 63).then(s -> {
            Kit.supply(s, 100, 5);
            Kit.feed(s, 1, 8);
        });
        int[] not = {-1, 64, 65, 0, 4, 6, 7, 9, 21, 37, 47, 62};
        for (int object : not) {
            dueRefused("shred(" + object + ")", ready, object);
        }
        for (int object : Kit.FAR) {
            dueRefused("shred(" + object + ")", ready, object);
        }
        dueRefused("shred(0), new", s -> Kit.supply(s, 100, 5), 0);
        dueRefused("shred(5), again", ready.then(s -> s.shred(5)).then(s -> s.supply(300)), 5);
        Subject s = new Subject();
        ready.on(s);
        check.due("shred(63)", s.shred(63), 1);
        Subject first = new Subject();
        puts(0).then(shredding(0)).on(first);
        check.due("size(0)", first.size(0), ShredStore.NONE);
    }

    private static void rowHasFewerThanThree() {
        check.sentence("BAD, and nothing happens: the row has fewer than three keys (though it takes fewer)");
        for (int k = 0; k < 3; k++) {
            int keys = k;
            dueRefused("shred with " + k + " keys", puts(5, 6).then(s -> Kit.supply(s, 100, keys)), 5);
            dueRefused("shred of the last with " + k + " keys", puts(5).then(s -> Kit.supply(s, 100, keys)), 5);
        }
        Subject s = new Subject();
        puts(5, 6).on(s);
        check.due("shred with three keys", Kit.shred(s, 5, 100), 1);
        check.due("count(1)", s.count(1), 0);
    }

    private static void powerIsOff() {
        check.sentence("BAD, and nothing happens: the power is off");
        dueRefused("shred, off", puts(5, 6).then(s -> {
            Kit.supply(s, 100, 3);
            s.cut();
        }), 5);
        dueRefused("shred, gone by arming", puts(5, 6).then(s -> {
            Kit.supply(s, 100, 3);
            s.arm(6);
            s.shred(5);
        }), 5);
    }

    /** "Fewer than three pages are not live" can't come about, as with put. */
    private static void manyPagesAreLive() {
        check.sentence("BAD: fewer than three pages are not live (never so)");
        Subject s = new Subject();
        for (int object = 0; object < 64; object++) {
            Kit.put(s, object, 1, 0, 1 + 4 * object);
        }
        check.due("count(3)", s.count(3), 85);
        check.due("shred(42)", Kit.shred(s, 42, 1000), 1);
        check.due("count(3)", s.count(3), 84);
        check.due("count(4)", s.count(4), 63);
        check.due("its key", s.known(1 + 4 * 42), false);
        check.due("another's key", s.known(1 + 4 * 43), true);
    }
}
