/** Promise 7: at. */
public final class AtTest {
    private static final Check check = new Check();

    public static void main(String[] args) {
        bytesOfBothPages();
        bytesAreNotNegative();
        noneSuch();
        ofAnEmptyObject();
        notThere();
        noSuchObject();
        powerIsOff();
        check.end();
    }

    private static void bytesOfBothPages() {
        check.sentence("byte i of an object, as it is read: the first one, the last one, and round the end of a page");
        Subject s = new Subject();
        Kit.put(s, 0, 130, 96, 10);
        Kit.put(s, 63, 1, 48, 20);
        int[] asked = {0, 1, 46, 47, 48, 49, 94, 95};
        for (int i : asked) {
            check.due("at(0, " + i + ")", s.at(0, i), 130 + i);
        }
        check.due("at(63, 0)", s.at(63, 0), 1);
        check.due("at(63, 47)", s.at(63, 47), 48);
    }

    private static void bytesAreNotNegative() {
        check.sentence("byte i of an object: 0 to 255");
        Subject s = new Subject();
        Kit.supply(s, 1, 4);
        s.feed(0xFFFE8000);
        s.feed(0x7F000102);
        s.put(0, 8);
        int[] want = {255, 254, 128, 0, 127, 0, 1, 2};
        for (int i = 0; i < want.length; i++) {
            check.due("at(0, " + i + ")", s.at(0, i), want[i]);
        }
    }

    private static void noneSuch() {
        check.sentence("NONE: none such");
        int[] sizes = {1, 47, 48, 49, 95, 96};
        for (int n : sizes) {
            Subject s = new Subject();
            Kit.put(s, 7, 1, n, 10);
            check.due("at(7, " + (n - 1) + ")", s.at(7, n - 1), n);
            check.due("at(7, " + n + ")", s.at(7, n), ShredStore.NONE);
            check.due("at(7, " + (n + 1) + ")", s.at(7, n + 1), ShredStore.NONE);
            check.due("at(7, -1)", s.at(7, -1), ShredStore.NONE);
            for (int i : Kit.FAR) {
                check.due("at(7, " + i + ")", s.at(7, i), ShredStore.NONE);
            }
        }
    }

    private static void ofAnEmptyObject() {
        check.sentence("NONE: none such, of an object without bytes");
        Subject s = new Subject();
        Kit.put(s, 7, 1, 0, 10);
        check.due("at(7, 0)", s.at(7, 0), ShredStore.NONE);
        check.due("at(7, -1)", s.at(7, -1), ShredStore.NONE);
    }

    private static void notThere() {
        check.sentence("NONE: none such, of an object that is not there");
        Subject s = new Subject();
        check.due("at(0, 0), new", s.at(0, 0), ShredStore.NONE);
        Kit.put(s, 5, 1, 4, 10);
        check.due("at(4, 0)", s.at(4, 0), ShredStore.NONE);
        check.due("at(0, -1)", s.at(0, -1), ShredStore.NONE);
        check.due("at(63, 0)", s.at(63, 0), ShredStore.NONE);
        Kit.shred(s, 5, 20);
        check.due("at(5, 0), shredded", s.at(5, 0), ShredStore.NONE);
    }

    private static void noSuchObject() {
        check.sentence("BAD: as size(): no such one");
        Subject s = new Subject();
        Kit.put(s, 0, 1, 4, 10);
        Kit.put(s, 63, 1, 4, 20);
        int[] bytes = {-1, 0, 3, 4};
        for (int i : bytes) {
            check.due("at(-1, " + i + ")", s.at(-1, i), ShredStore.BAD);
            check.due("at(64, " + i + ")", s.at(64, i), ShredStore.BAD);
            for (int object : Kit.FAR) {
                check.due("at(" + object + ", " + i + ")", s.at(object, i), ShredStore.BAD);
            }
        }
    }

    private static void powerIsOff() {
        check.sentence("BAD: as size(): the power is off");
        Subject s = new Subject();
        Kit.put(s, 0, 1, 4, 10);
        s.cut();
        check.due("at(0, 0), off", s.at(0, 0), ShredStore.BAD);
        check.due("at(0, 4), off", s.at(0, 4), ShredStore.BAD);
        check.due("at(1, 0), off", s.at(1, 0), ShredStore.BAD);
        check.due("at(0, -1), off", s.at(0, -1), ShredStore.BAD);
        s.power();
        check.due("at(0, 0), on", s.at(0, 0), 1);
        check.due("at(0, 4), on", s.at(0, 4), ShredStore.NONE);
    }
}
