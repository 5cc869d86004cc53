/** Terms: what a page has that is written, and where the entries of the tree stand. */
public final class PageFormTest {
    private static final Check check = new Check();

    public static void main(String[] args) {
        nodesAndData();
        numbersHaveTheHighestByteFirst();
        writingOfTheFirstPages();
        writingAbove255();
        writingBehindAPageThatCountsItself();
        writingBehindATornPage();
        writingIsTheGreatestOfAnyPage();
        entriesOfEveryObject();
        nodesKeepTheirEntries();
        aNodeThatIsNotThereHasNoEntries();
        check.end();
    }

    private static void nodesAndData() {
        check.sentence("a page written has: its kind, its writing, its tag, 51 bytes; a node's; data's");
        long key = 0x8877665544332211L;
        Picture p = Picture.of(s -> Kit.put(s, 27, 200, 5, key));
        p.duePage(check, 0, 2, 1, key, Kit.data(Kit.LAST, 5, 200));
        p.duePage(check, 1, 1, 2, key + 1, Kit.nodeWith(3, key, 0));
        p.duePage(check, 2, 1, 3, key + 2, Kit.nodeWith(2, key + 1, 1));
        p.duePage(check, 3, 1, 4, key + 3, Kit.nodeWith(1, key + 2, 2));
        check.due("cell(0)", p.cell[0], key + 3);
        check.due("cell(1)", p.cell[1], 3);
        for (int i = 4 * 64; i < Picture.DISK_BYTES; i++) {
            check.due("disk(" + i + "), not written", p.disk[i], 0);
        }
    }

    private static void numbersHaveTheHighestByteFirst() {
        check.sentence("numbers in bytes have the highest byte first");
        long key = 0x0102030405060708L;
        Picture p = Picture.of(s -> Kit.put(s, 0, 1, 49, key));
        int[] lower = p.body(2, key + 1);
        for (int i = 0; i < 8; i++) {
            check.due("entry's key, byte " + i, lower[i], i + 1);
        }
        check.due("entry's page, high", lower[8], 0);
        check.due("entry's page, low", lower[9], 1);
        int[] first = p.body(1, key);
        check.due("next page, high", first[0], 0);
        check.due("next page, low", first[1], 0);
        int[] last = p.body(0, key);
        check.due("no next page, high", last[0], 255);
        check.due("no next page, low", last[1], 255);
    }

    private static void writingOfTheFirstPages() {
        check.sentence("its WRITING: 1 more than the greatest that stands in these bytes of any page");
        Picture p = Picture.of(s -> {
            Kit.put(s, 0, 1, 0, 10);
            Kit.put(s, 0, 1, 49, 20);
            Kit.shred(s, 0, 30);
        });
        for (int page = 0; page < 10; page++) {
            check.due("writing of page " + page, p.writing(page), page + 1);
        }
        check.due("writing of page 10", p.writing(10), 0);
    }

    /** 264 pages, one behind the other and round the end. */
    private static void manyPages(Subject s) {
        for (int n = 0; n < 66; n++) {
            Kit.put(s, 9, n, 0, 1 + 4 * n);
        }
    }

    private static void writingAbove255() {
        check.sentence("1 to 4 its WRITING, highest byte first: 255, 256, 257");
        Picture p = Picture.of(PageFormTest::manyPages);
        // page 199 has writing 200, and then it goes on with page 0
        int[][] want = {{53, 0, 254}, {54, 0, 255}, {55, 1, 0}, {56, 1, 1}, {63, 1, 8}, {64, 0, 65}};
        for (int[] w : want) {
            check.due("page " + w[0] + ", disk(.. + 1)", p.disk[64 * w[0] + 1], 0);
            check.due("page " + w[0] + ", disk(.. + 2)", p.disk[64 * w[0] + 2], 0);
            check.due("page " + w[0] + ", disk(.. + 3)", p.disk[64 * w[0] + 3], w[1]);
            check.due("page " + w[0] + ", disk(.. + 4)", p.disk[64 * w[0] + 4], w[2]);
        }
        p.duePage(check, 60, 2, 261, 261, Kit.data(Kit.LAST, 0, 0));
        p.duePage(check, 63, 1, 264, 264, Kit.nodeWith(0, 263, 62));
        check.due("size(9), read by writings above 255", p.sizes[9], 0);
    }

    private static void writingBehindAPageThatCountsItself() {
        check.sentence("the greatest that stands .. of any page when its writing begins: the page's own old bytes too");
        Picture p = Picture.of(s -> {
            s.arm(4);
            Kit.put(s, 0, 1, 0, 10);
            s.power();
            Kit.put(s, 0, 1, 0, 20);
        });
        for (int page = 0; page < 4; page++) {
            check.due("writing of page " + page, p.writing(page), page + 2);
        }
    }

    private static void writingBehindATornPage() {
        check.sentence("the greatest that stands in these bytes: a page that was not written whole has its old ones");
        Picture p = Picture.of(s -> {
            s.arm(7);
            Kit.put(s, 0, 1, 0, 10);
            s.power();
            Kit.put(s, 0, 1, 0, 20);
        });
        check.due("writing of page 0", p.writing(0), 2);
        check.due("writing of page 1", p.writing(1), 3);
    }

    private static void writingIsTheGreatestOfAnyPage() {
        check.sentence("the greatest that stands in these bytes of any page: the last one, and one that is not live");
        Picture p = Picture.of(s -> {
            for (int n = 0; n < 50; n++) {
                Kit.put(s, 0, 1, 0, 1 + 4 * n);
            }
            s.cut();
            s.power();
            Kit.put(s, 0, 1, 0, 1000);
            s.arm(4);
            Kit.put(s, 0, 1, 0, 2000);
            s.power();
            Kit.put(s, 0, 1, 0, 3000);
        });
        check.due("writing of page 199", p.writing(199), 200);
        check.due("writing of page 0, behind page 199", p.writing(0), 201);
        check.due("writing of page 3", p.writing(3), 204);
        check.due("writing of page 4, behind one that is not live", p.writing(4), 206);
    }

    private static void entriesOfEveryObject() {
        check.sentence("entry o / 16 of the root; entry o / 4 modulo 4 of that; entry o modulo 4 of that of object o");
        for (int o = 0; o < 64; o++) {
            int object = o;
            Picture p = Picture.of(s -> Kit.put(s, object, 3, 4, 10));
            p.duePage(check, 1, 1, 2, 11, Kit.nodeWith(o % 4, 10, 0));
            p.duePage(check, 2, 1, 3, 12, Kit.nodeWith(o / 4 % 4, 11, 1));
            p.duePage(check, 3, 1, 4, 13, Kit.nodeWith(o / 16, 12, 2));
            for (int other = 0; other < 64; other++) {
                check.due("put " + o + ", size(" + other + ")", p.sizes[other], other == o ? 4 : ShredStore.NONE);
            }
        }
    }

    private static void nodesKeepTheirEntries() {
        check.sentence("the node of four objects is written anew (with what its entries were); then those above");
        Picture p = Picture.of(s -> {
            Kit.put(s, 20, 1, 4, 100);
            Kit.put(s, 22, 2, 4, 200);
            Kit.put(s, 24, 3, 4, 300);
            Kit.put(s, 63, 4, 4, 400);
            Kit.put(s, 22, 5, 4, 500);
        });
        p.duePage(check, 5, 1, 6, 201, Kit.node(100, 0, 0, 0, 200, 4));
        p.duePage(check, 10, 1, 11, 302, Kit.node(0, 0, 201, 5, 301, 9));
        p.duePage(check, 15, 1, 16, 403, Kit.node(0, 0, 302, 10, 0, 0, 402, 14));
        p.duePage(check, 17, 1, 18, 501, Kit.node(100, 0, 0, 0, 500, 16));
        p.duePage(check, 18, 1, 19, 502, Kit.node(0, 0, 501, 17, 301, 9));
        p.duePage(check, 19, 1, 20, 503, Kit.node(0, 0, 502, 18, 0, 0, 402, 14));
        check.due("cell(0)", p.cell[0], 503);
        check.due("cell(1)", p.cell[1], 19);
    }

    private static void aNodeThatIsNotThereHasNoEntries() {
        check.sentence("a node that is not there has no entries");
        Picture p = Picture.of(s -> {
            Kit.put(s, 0, 1, 4, 10);
            Kit.put(s, 5, 2, 4, 20);
            Kit.put(s, 35, 3, 4, 30);
        });
        p.duePage(check, 5, 1, 6, 21, Kit.nodeWith(1, 20, 4));
        p.duePage(check, 6, 1, 7, 22, Kit.node(11, 1, 21, 5));
        p.duePage(check, 9, 1, 10, 31, Kit.nodeWith(3, 30, 8));
        p.duePage(check, 10, 1, 11, 32, Kit.nodeWith(0, 31, 9));
        p.duePage(check, 11, 1, 12, 33, Kit.node(22, 6, 0, 0, 32, 10));
    }
}
