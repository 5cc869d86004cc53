/** Promise 11: disk. */
public final class DiskTest {
    private static final Check check = new Check();

    public static void main(String[] args) {
        noneSuch();
        firstAndLast();
        sixtyFourForEachPage();
        bytesAreNotNegative();
        offToo();
        check.end();
    }

    private static void noneSuch() {
        check.sentence("NONE: none such");
        int[] outside = {-1, 12800, -64, 12801, 12864, -12800};
        for (int written = 0; written < 2; written++) {
            Subject s = new Subject();
            if (written == 1) {
                Kit.put(s, 0, 1, 48, 1);
            }
            for (int i : outside) {
                check.due("disk(" + i + ")", s.disk(i), ShredStore.NONE);
            }
            for (int i : Kit.FAR) {
                check.due("disk(" + i + ")", s.disk(i), ShredStore.NONE);
            }
            s.cut();
            check.due("disk(-1), off", s.disk(-1), ShredStore.NONE);
            check.due("disk(12800), off", s.disk(12800), ShredStore.NONE);
        }
    }

    private static void firstAndLast() {
        check.sentence("byte i of the disk: the first one and the last one");
        Subject s = new Subject();
        check.due("disk(0), new", s.disk(0), 0);
        check.due("disk(12799), new", s.disk(12799), 0);
        for (int n = 0; n < 50; n++) {
            Kit.put(s, 0, 1, 0, 1 + 4 * n);
        }
        // the last put has the root with its one entry on page 199, by the 200th writing and the key 200
        check.due("disk(0)", s.disk(0), 2);
        check.due("disk(12799)", s.disk(12799), Kit.padByte(200, 200, 50));
        check.due("disk(12798)", s.disk(12798), Kit.padByte(200, 200, 49));
        check.due("disk(12736)", s.disk(12736), 1);
    }

    private static void sixtyFourForEachPage() {
        check.sentence("64 for each page");
        Subject s = new Subject();
        Kit.put(s, 0, 1, 0, 1);
        int[] kinds = {2, 1, 1, 1, 0};
        for (int page = 0; page < kinds.length; page++) {
            check.due("disk(" + 64 * page + ")", s.disk(64 * page), kinds[page]);
            check.due("disk(" + (64 * page + 4) + ")", s.disk(64 * page + 4), page < 4 ? page + 1 : 0);
        }
    }

    private static void bytesAreNotNegative() {
        check.sentence("byte i of the disk: 0 to 255");
        int[] disk = Picture.of(PutTest::filled).disk;
        int high = 0;
        for (int i = 0; i < disk.length; i++) {
            check.due("disk(" + i + ") is a byte", disk[i] >= 0 && disk[i] <= 255, true);
            high += disk[i] >= 128 ? 1 : 0;
        }
        check.due("there are bytes of 128 and more", high > 100, true);
    }

    private static void offToo() {
        check.sentence("byte i of the disk, which stays when the power goes");
        Subject s = new Subject();
        Kit.put(s, 0, 1, 48, 1);
        int[] before = new int[64];
        for (int i = 0; i < 64; i++) {
            before[i] = s.disk(i);
        }
        s.cut();
        for (int i = 0; i < 64; i++) {
            check.due("disk(" + i + "), off", s.disk(i), before[i]);
        }
    }
}
