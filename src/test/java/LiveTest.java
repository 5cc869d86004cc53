/** Promise 15: live. */
public final class LiveTest {
    private static final Check check = new Check();

    public static void main(String[] args) {
        beforeTheFirstPut();
        noSuchPage();
        firstAndLastPage();
        pagesOfTheTree();
        bothPagesOfData();
        replacedPages();
        lastObjectGone();
        writtenInVain();
        whenThePowerIsOff();
        check.end();
    }

    private static void beforeTheFirstPut() {
        check.sentence("a page is live that can be come to from the cell: none before the first put");
        Picture.of(s -> { }).dueLive(check, "new");
        Picture.of(s -> {
            Kit.supply(s, 1, 4);
            Kit.feed(s, 1, 4);
        }).dueLive(check, "supplied and fed");
    }

    private static void noSuchPage() {
        check.sentence("whether a page is live: no such page");
        for (int put = 0; put < 2; put++) {
            Subject s = new Subject();
            if (put == 1) {
                Kit.put(s, 0, 1, 96, 1);
            }
            int[] outside = {-1, -2, 200, 201, 65535};
            for (int page : outside) {
                check.due("live(" + page + ")", s.live(page), false);
            }
            for (int page : Kit.FAR) {
                check.due("live(" + page + ")", s.live(page), false);
            }
        }
    }

    private static void firstAndLastPage() {
        check.sentence("whether a page is live: pages 0 and 199");
        Subject s = new Subject();
        check.due("live(0), new", s.live(0), false);
        check.due("live(199), new", s.live(199), false);
        Kit.put(s, 0, 1, 0, 1);
        check.due("live(0)", s.live(0), true);
        check.due("live(199)", s.live(199), false);
        for (int n = 1; n < 50; n++) {
            Kit.put(s, 1, 1, 0, 1 + 4 * n);
        }
        check.due("live(0), object 0", s.live(0), true);
        check.due("live(199), the root", s.live(199), true);
        check.due("live(200)", s.live(200), false);
        Kit.put(s, 1, 1, 0, 1000);
        check.due("live(199), an old root", s.live(199), false);
    }

    private static void pagesOfTheTree() {
        check.sentence("a page is live that can be come to so from the cell");
        Picture.of(PutTest::filled).dueLive(check, "filled", 0, 4, 5, 6, 7, 9, 10, 11, 12);
    }

    private static void bothPagesOfData() {
        check.sentence("a page is live that can be come to: each page of an object's data");
        Picture.of(s -> Kit.put(s, 0, 1, 49, 1)).dueLive(check, "two pages", 0, 1, 2, 3, 4);
        Picture.of(s -> Kit.put(s, 0, 1, 48, 1)).dueLive(check, "one page", 0, 1, 2, 3);
        Picture.of(s -> Kit.put(s, 0, 1, 0, 1)).dueLive(check, "an object without bytes", 0, 1, 2, 3);
    }

    private static void replacedPages() {
        check.sentence("a page is not live that can't be come to any more");
        Picture.of(s -> {
            Kit.put(s, 0, 1, 4, 10);
            Kit.put(s, 0, 1, 90, 20);
            Kit.put(s, 17, 1, 4, 30);
        }).dueLive(check, "replaced", 4, 5, 6, 7, 9, 10, 11, 12);
        Picture.of(s -> {
            Kit.put(s, 0, 1, 90, 10);
            Kit.put(s, 17, 1, 4, 20);
            Kit.shred(s, 0, 30);
        }).dueLive(check, "shredded", 5, 6, 7, 9);
    }

    private static void lastObjectGone() {
        check.sentence("a page is live that can be come to: the root alone when the last object is gone");
        Picture.of(s -> {
            Kit.put(s, 0, 1, 4, 10);
            Kit.shred(s, 0, 20);
        }).dueLive(check, "the last is gone", 4);
    }

    private static void writtenInVain() {
        check.sentence("a page is live that can be come to from the cell: not those written before the power went");
        for (int n = 0; n < 17; n++) {
            int steps = n;
            Picture.of(s -> {
                s.arm(steps);
                Kit.put(s, 0, 1, 4, 10);
            }).dueLive(check, "went behind " + n);
            Picture.of(s -> {
                Kit.put(s, 0, 1, 4, 10);
                s.arm(steps);
                Kit.put(s, 0, 1, 4, 20);
                s.power();
            }).dueLive(check, "went behind " + n + " and came", 0, 1, 2, 3);
        }
    }

    private static void whenThePowerIsOff() {
        check.sentence("whether a page is live: the power is not asked for");
        Picture.of(s -> {
            Kit.put(s, 0, 1, 4, 10);
            Kit.put(s, 0, 1, 4, 20);
            s.cut();
        }).dueLive(check, "off", 4, 5, 6, 7);
    }
}
