/** Promise 16: count. */
public final class CountTest {
    private static final Check check = new Check();

    public static void main(String[] args) {
        anotherNumber();
        power();
        keysInTheRow();
        bytesOnTheTape();
        livePages();
        objectsThatAreThere();
        pagesWrittenWhole();
        stepsDone();
        keysThatCanBeComeTo();
        allAtOnce();
        check.end();
    }

    private static void anotherNumber() {
        check.sentence("NONE: another number");
        for (int state = 0; state < 3; state++) {
            Subject s = new Subject();
            if (state > 0) {
                Kit.put(s, 0, 1, 4, 1);
            }
            if (state > 1) {
                s.cut();
            }
            int[] other = {-1, -2, 8, 9, 16};
            for (int what : other) {
                check.due("count(" + what + ")", s.count(what), ShredStore.NONE);
            }
            for (int what : Kit.FAR) {
                check.due("count(" + what + ")", s.count(what), ShredStore.NONE);
            }
        }
    }

    private static void power() {
        check.sentence("0 whether the power is on (1 or 0)");
        Subject s = new Subject();
        check.due("count(0), new", s.count(0), 1);
        s.cut();
        check.due("count(0), cut", s.count(0), 0);
        s.power();
        check.due("count(0), come", s.count(0), 1);
        s.arm(0);
        check.due("count(0), armed", s.count(0), 1);
        Kit.put(s, 0, 1, 4, 1);
        check.due("count(0), gone", s.count(0), 0);
    }

    private static void keysInTheRow() {
        check.sentence("1 keys in the row");
        Subject s = new Subject();
        for (int n = 1; n <= 40; n++) {
            s.supply(n);
            check.due("count(1)", s.count(1), n);
        }
        s.supply(41);
        check.due("count(1), one too many", s.count(1), 40);
        s.put(0, 0);
        check.due("count(1), behind a put", s.count(1), 36);
        s.put(1, 0);
        s.shred(0);
        check.due("count(1), behind a shred", s.count(1), 29);
        s.shred(1);
        check.due("count(1), behind the last", s.count(1), 28);
        s.cut();
        check.due("count(1), off", s.count(1), 0);
    }

    private static void bytesOnTheTape() {
        check.sentence("2 bytes on the tape");
        Subject s = new Subject();
        for (int n = 4; n <= 96; n += 4) {
            s.feed(n);
            check.due("count(2)", s.count(2), n);
        }
        s.feed(1);
        check.due("count(2), one too many", s.count(2), 96);
        Kit.supply(s, 1, 4);
        s.put(0, 3);
        check.due("count(2), behind a put", s.count(2), 0);
        s.feed(1);
        s.cut();
        check.due("count(2), off", s.count(2), 0);
    }

    private static void livePages() {
        check.sentence("3 live pages");
        Subject s = new Subject();
        Kit.put(s, 0, 1, 4, 10);
        check.due("count(3), one object", s.count(3), 4);
        Kit.put(s, 1, 1, 49, 20);
        check.due("count(3), one in the same node", s.count(3), 6);
        Kit.put(s, 4, 1, 4, 30);
        check.due("count(3), one in another node", s.count(3), 8);
        Kit.put(s, 16, 1, 4, 40);
        check.due("count(3), one in another node of the root", s.count(3), 11);
        s.cut();
        check.due("count(3), off", s.count(3), 11);
        s.power();
        Kit.shred(s, 16, 50);
        check.due("count(3), shredded", s.count(3), 8);
        s.arm(12);
        Kit.shred(s, 0, 60);
        check.due("count(3), written in vain", s.count(3), 8);
    }

    private static void objectsThatAreThere() {
        check.sentence("4 objects that are there");
        Subject s = new Subject();
        for (int object = 0; object < 64; object++) {
            Kit.put(s, object, 1, 0, 1 + 4 * object);
            check.due("count(4)", s.count(4), object + 1);
        }
        Kit.put(s, 63, 1, 49, 1000);
        check.due("count(4), put again", s.count(4), 64);
        Kit.shred(s, 0, 1010);
        check.due("count(4), shredded", s.count(4), 63);
        s.cut();
        check.due("count(4), off", s.count(4), 63);
        s.power();
        s.arm(12);
        Kit.shred(s, 1, 1020);
        check.due("count(4), in vain", s.count(4), 63);
    }

    private static void pagesWrittenWhole() {
        check.sentence("5 pages written whole");
        for (int n = 0; n <= 21; n++) {
            Subject s = new Subject();
            Kit.put(s, 0, 1, 0, 10);
            check.due("count(5)", s.count(5), 4);
            s.arm(n);
            Kit.put(s, 1, 1, 49, 20);
            check.due("count(5), behind " + n + " steps", s.count(5), 4 + Math.min(n, 20) / 4);
            s.cut();
            s.power();
            check.due("count(5), come", s.count(5), 4 + Math.min(n, 20) / 4);
        }
    }

    private static void stepsDone() {
        check.sentence("6 steps done");
        for (int n = 0; n <= 21; n++) {
            Subject s = new Subject();
            Kit.put(s, 0, 1, 0, 10);
            check.due("count(6)", s.count(6), 17);
            s.arm(n);
            Kit.put(s, 1, 1, 49, 20);
            check.due("count(6), behind " + n + " steps", s.count(6), 17 + n);
            s.cut();
            s.power();
            check.due("count(6), come", s.count(6), 17 + n);
        }
    }

    private static void keysThatCanBeComeTo() {
        check.sentence("7 keys that can be come to");
        Subject s = new Subject();
        Kit.supply(s, 1, 3);
        check.due("count(7), none", s.count(7), 0);
        s.supply(4);
        s.put(0, 0);
        check.due("count(7)", s.count(7), 4);
        Kit.put(s, 1, 1, 49, 10);
        check.due("count(7), two objects", s.count(7), 5);
        Kit.put(s, 63, 1, 4, 20);
        check.due("count(7), three objects", s.count(7), 8);
        s.cut();
        check.due("count(7), off", s.count(7), 8);
        s.power();
        Kit.shred(s, 63, 30);
        Kit.shred(s, 0, 40);
        Kit.shred(s, 1, 50);
        check.due("count(7), the root alone", s.count(7), 1);
    }

    private static void allAtOnce() {
        check.sentence("0 to 7, each of its own");
        Run run = s -> {
            Kit.put(s, 0, 1, 4, 10);
            Kit.put(s, 1, 1, 60, 20);
            Kit.supply(s, 30, 7);
            Kit.feed(s, 1, 12);
        };
        Picture.of(run).dueCounts(check, "on", 1, 7, 12, 6, 2, 9, 38, 5);
        Run gone = run.then(s -> s.arm(6)).then(s -> check.due("put", s.put(2, 1), 0));
        Picture.of(gone).dueCounts(check, "gone", 0, 0, 0, 6, 2, 10, 44, 5);
        Picture.of(gone.then(s -> s.power())).dueCounts(check, "come", 1, 0, 0, 6, 2, 10, 44, 5);
    }
}
