/** Promise 1: a new object, "as above": the first state, as the Terms say it. */
public final class NewObjectTest {
    private static final Check check = new Check();

    public static void main(String[] args) {
        diskIs0();
        cellIs0AndNone();
        rowIsEmpty();
        tapeIsEmpty();
        powerIsOn();
        powerIsNotArmed();
        nothingIsThere();
        objectsAreApart();
        objectsAreApartInTurn();
        check.end();
    }

    private static void diskIs0() {
        check.sentence("the disk has 200 pages of 64 bytes (0 at first)");
        Picture p = Picture.of(s -> { });
        for (int i = 0; i < Picture.DISK_BYTES; i++) {
            check.due("disk(" + i + ")", p.disk[i], 0);
        }
    }

    private static void cellIs0AndNone() {
        check.sentence("a cell: a key and a page (0 and NONE at first)");
        check.due("cell(0)", new Subject().cell(0), 0);
        check.due("cell(1)", new Subject().cell(1), ShredStore.NONE);
    }

    private static void rowIsEmpty() {
        check.sentence("a new object: no key in the row");
        check.due("count(1)", new Subject().count(1), 0);
        check.due("put(0, 0)", new Subject().put(0, 0), ShredStore.BAD);
        Subject s = new Subject();
        Kit.supply(s, 5, 4);
        s.put(0, 0);
        check.due("cell(0), of the fourth key", s.cell(0), 8);
    }

    private static void tapeIsEmpty() {
        check.sentence("a new object: no byte on the tape");
        check.due("count(2)", new Subject().count(2), 0);
        check.due("feed", new Subject().feed(7), 4);
        Subject s = new Subject();
        Kit.supply(s, 5, 4);
        check.due("put(0, 1)", s.put(0, 1), ShredStore.BAD);
        check.due("put(0, 0)", s.put(0, 0), 1);
    }

    private static void powerIsOn() {
        check.sentence("the power: it is on at first");
        check.due("count(0)", new Subject().count(0), 1);
        check.due("power()", new Subject().power(), false);
        check.due("supply(1)", new Subject().supply(1), true);
        check.due("size(0)", new Subject().size(0), ShredStore.NONE);
        check.due("arm(0)", new Subject().arm(0), true);
        check.due("cut()", new Subject().cut(), true);
    }

    private static void powerIsNotArmed() {
        check.sentence("a new object: the power is not armed");
        Subject s = new Subject();
        for (int n = 0; n < 80; n++) {
            check.due("put " + n, Kit.put(s, n % 64, 1, 0, 1 + 4 * n), 1);
        }
        check.due("count(6)", s.count(6), 80 * 17);
    }

    private static void nothingIsThere() {
        check.sentence("a new object: no object, no live page, no key that can be come to, nothing written");
        Picture p = Picture.of(s -> { });
        p.dueCounts(check, "new", 1, 0, 0, 0, 0, 0, 0, 0);
        p.dueLive(check, "new");
        p.dueKnown(check, "new");
        for (int object = 0; object < 64; object++) {
            check.due("size(" + object + ")", p.sizes[object], ShredStore.NONE);
        }
    }

    private static void objectsAreApart() {
        check.sentence("a new object, though another one was used before");
        Run used = s -> {
            Kit.put(s, 3, 1, 60, 10);
            Kit.supply(s, 20, 5);
            Kit.feed(s, 1, 8);
            s.arm(3);
        };
        Picture first = Picture.of(s -> { });
        Subject other = new Subject();
        used.on(other);
        other.cut();
        Picture.of(s -> { }).dueSame(check, "new, behind another", first);
        Subject s = new Subject();
        check.due("supply of a key that another has", s.supply(10), true);
    }

    private static void objectsAreApartInTurn() {
        check.sentence("a new object, used in turn with another one");
        Subject a = new Subject();
        Subject b = new Subject();
        check.due("a.supply(1)", a.supply(1), true);
        check.due("b.supply(2)", b.supply(2), true);
        check.due("a.supply(1) again", a.supply(1), false);
        check.due("a.supply(2)", a.supply(2), true);
        check.due("b.supply(1)", b.supply(1), true);
        Kit.supply(a, 3, 2);
        Kit.supply(b, 13, 2);
        a.feed(0x01020304);
        b.feed(0x05060708);
        check.due("a.put(0, 4)", a.put(0, 4), 1);
        check.due("b.put(0, 3)", b.put(0, 3), 1);
        check.due("a.size(0)", a.size(0), 4);
        check.due("b.size(0)", b.size(0), 3);
        check.due("a.at(0, 0)", a.at(0, 0), 1);
        check.due("b.at(0, 0)", b.at(0, 0), 5);
        b.cut();
        check.due("a.count(0)", a.count(0), 1);
        check.due("a.cell(0)", a.cell(0), 4);
        check.due("b.cell(0)", b.cell(0), 14);
    }
}
