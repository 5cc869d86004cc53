/** Promise 6: size. */
public final class SizeTest {
    private static final Check check = new Check();

    public static void main(String[] args) {
        howManyBytes();
        afterOtherChanges();
        notThere();
        noSuchOne();
        powerIsOff();
        check.end();
    }

    private static void howManyBytes() {
        check.sentence("how many bytes an object has, as it is read from the disk");
        int[] sizes = {0, 1, 47, 48, 49, 95, 96};
        for (int n : sizes) {
            for (int object = 0; object < 64; object += 63) {
                Subject s = new Subject();
                Kit.put(s, object, 1, n, 10);
                check.due("size(" + object + ")", s.size(object), n);
            }
        }
    }

    private static void afterOtherChanges() {
        check.sentence("how many bytes an object has: as it was put last, whatever was done to others");
        Subject s = new Subject();
        Kit.put(s, 0, 1, 96, 10);
        Kit.put(s, 0, 1, 5, 20);
        check.due("size(0), put again", s.size(0), 5);
        Kit.put(s, 1, 1, 50, 30);
        Kit.put(s, 63, 1, 7, 40);
        Kit.shred(s, 1, 50);
        check.due("size(0)", s.size(0), 5);
        check.due("size(63)", s.size(63), 7);
        s.cut();
        s.power();
        check.due("size(0), the power came", s.size(0), 5);
        check.due("size(63), the power came", s.size(63), 7);
    }

    private static void notThere() {
        check.sentence("NONE: it is not there");
        Subject s = new Subject();
        check.due("size(0), new", s.size(0), ShredStore.NONE);
        check.due("size(63), new", s.size(63), ShredStore.NONE);
        Kit.put(s, 5, 1, 4, 10);
        int[] not = {0, 4, 6, 9, 21, 37, 63};
        for (int object : not) {
            check.due("size(" + object + ")", s.size(object), ShredStore.NONE);
        }
        Kit.shred(s, 5, 20);
        check.due("size(5), shredded", s.size(5), ShredStore.NONE);
    }

    private static void noSuchOne() {
        check.sentence("BAD: no such one");
        Subject s = new Subject();
        check.due("size(-1), new", s.size(-1), ShredStore.BAD);
        check.due("size(64), new", s.size(64), ShredStore.BAD);
        Kit.put(s, 0, 1, 4, 10);
        Kit.put(s, 63, 1, 4, 20);
        check.due("size(-1)", s.size(-1), ShredStore.BAD);
        check.due("size(64)", s.size(64), ShredStore.BAD);
        for (int object : Kit.FAR) {
            check.due("size(" + object + ")", s.size(object), ShredStore.BAD);
        }
    }

    private static void powerIsOff() {
        check.sentence("BAD: the power is off");
        Subject s = new Subject();
        Kit.put(s, 0, 1, 4, 10);
        s.cut();
        check.due("size(0), off", s.size(0), ShredStore.BAD);
        check.due("size(1), off", s.size(1), ShredStore.BAD);
        check.due("size(64), off", s.size(64), ShredStore.BAD);
        s.power();
        check.due("size(0), on", s.size(0), 4);
        check.due("size(1), on", s.size(1), ShredStore.NONE);
        s.arm(2);
        Kit.put(s, 0, 1, 8, 20);
        check.due("size(0), gone by arming", s.size(0), ShredStore.BAD);
    }
}
