/** Terms: which page is taken to write. */
public final class PageTakingTest {
    private static final Check check = new Check();

    public static void main(String[] args) {
        page0AtFirst();
        behindTheOneWrittenLast();
        behindTheOneWrittenLastThoughOthersAreFree();
        page0WhenThePowerCame();
        livePage0WhenThePowerCame();
        page0WhenThePowerCameThatWentByArming();
        notWhenThePowerWasOn();
        roundTheEnd();
        roundTheEndWithinACall();
        roundTheEndBehindLivePages();
        refusedCallsTakeNone();
        shredTakesPagesToo();
        fullestTree();
        check.end();
    }

    /** A one-page put whose data, nodes of the branch and root stand on these pages. */
    private static void duePut(String name, Run before, int object, long key, int... pages) {
        Picture p = Picture.of(before.then(s -> check.due(name + ", put", Kit.put(s, object, 5, 4, key), 1)));
        check.due(name + ", data's tag", p.tag(pages[0]), Kit.pad(key, p.writing(pages[0]), 100));
        check.due(name + ", data's kind", p.kind(pages[0]), 2);
        for (int i = 1; i < 4; i++) {
            check.due(name + ", tag of page " + pages[i], p.tag(pages[i]), Kit.pad(key + i, p.writing(pages[i]), 100));
            check.due(name + ", kind of page " + pages[i], p.kind(pages[i]), 1);
        }
        check.due(name + ", cell(1)", p.cell[1], pages[3]);
        check.due(name + ", at", p.bytes[object].length == 4 ? p.bytes[object][0] : ShredStore.NONE, 5);
    }

    private static void page0AtFirst() {
        check.sentence("at first: page 0 itself counts first");
        duePut("first", s -> { }, 0, 10, 0, 1, 2, 3);
    }

    private static void behindTheOneWrittenLast() {
        check.sentence("the first one behind the page that was written last");
        duePut("second", s -> Kit.put(s, 0, 1, 4, 10), 0, 20, 4, 5, 6, 7);
    }

    private static void behindTheOneWrittenLastThoughOthersAreFree() {
        check.sentence("the first one behind the page that was written last, though pages before it are not live");
        duePut("third", s -> {
            Kit.put(s, 0, 1, 4, 10);
            Kit.put(s, 0, 1, 4, 20);
        }, 0, 30, 8, 9, 10, 11);
    }

    private static void page0WhenThePowerCame() {
        check.sentence("when the power came: page 0 itself counts first");
        duePut("power came", s -> {
            Kit.put(s, 0, 1, 4, 10);
            Kit.put(s, 0, 1, 4, 20);
            s.cut();
            s.power();
        }, 1, 30, 0, 1, 2, 3);
    }

    private static void livePage0WhenThePowerCame() {
        check.sentence("a page that is not live is taken: live ones are left out, when the power came too");
        Run both = s -> {
            Kit.put(s, 0, 1, 4, 10);
            s.cut();
            s.power();
            check.due("put behind four live pages", Kit.put(s, 1, 1, 4, 20), 1);
            s.cut();
            s.power();
        };
        duePut("page 0 is live", s -> {
            Kit.put(s, 0, 1, 4, 10);
            s.cut();
            s.power();
        }, 1, 20, 4, 5, 6, 7);
        duePut("pages 0 and 4 to 7 are live", both, 2, 30, 1, 2, 3, 8);
    }

    private static void page0WhenThePowerCameThatWentByArming() {
        check.sentence("when the power came: page 0 itself counts first, and what was written in vain is not live");
        for (int n = 0; n < 17; n++) {
            int steps = n;
            duePut("went behind step " + n, s -> {
                Kit.put(s, 0, 1, 4, 10);
                s.arm(steps);
                Kit.put(s, 0, 1, 4, 20);
                s.power();
            }, 0, 30, 4, 5, 6, 7);
        }
    }

    private static void notWhenThePowerWasOn() {
        check.sentence("when the power came: not by a power() that answers false");
        duePut("power was on", s -> {
            Kit.put(s, 0, 1, 4, 10);
            Kit.put(s, 0, 1, 4, 20);
            check.due("power()", s.power(), false);
        }, 0, 30, 8, 9, 10, 11);
        duePut("power came once", s -> {
            Kit.put(s, 0, 1, 4, 10);
            Kit.put(s, 0, 1, 4, 20);
            s.cut();
            s.power();
            Kit.put(s, 0, 1, 4, 30);
            Kit.put(s, 0, 1, 4, 40);
        }, 0, 50, 8, 9, 10, 11);
    }

    private static void roundTheEnd() {
        check.sentence("round the end: page 0 comes behind page 199");
        Run fifty = s -> {
            for (int n = 0; n < 50; n++) {
                Kit.put(s, 0, 1, 0, 1 + 4 * n);
            }
            check.due("cell(1)", s.cell(1), 199);
        };
        duePut("round the end", fifty, 0, 1000, 0, 1, 2, 3);
        duePut("once more", fifty.then(s -> Kit.put(s, 0, 1, 0, 1000)), 0, 2000, 4, 5, 6, 7);
    }

    /** Object 0 on pages 0 and 1, and object 1 written over and over, up to page 196. */
    private static void upTo196(Subject s, int first, int rest) {
        Kit.put(s, first, 1, 49, 1);
        for (int n = 0; n < 48; n++) {
            Kit.put(s, rest, 1, 0, 5 + 4 * n);
        }
        check.due("cell(1)", s.cell(1), 196);
    }

    private static void roundTheEndWithinACall() {
        check.sentence("round the end, in the midst of a call");
        duePut("one object", s -> upTo196(s, 1, 1), 1, 1000, 197, 198, 199, 0);
    }

    private static void roundTheEndBehindLivePages() {
        check.sentence("round the end: the first one that is not live");
        duePut("pages 0 and 1 are live", s -> upTo196(s, 0, 1), 1, 1000, 197, 198, 199, 2);
        duePut("and then", s -> {
            upTo196(s, 0, 1);
            Kit.put(s, 1, 1, 0, 1000);
        }, 1, 2000, 3, 4, 5, 6);
    }

    private static void refusedCallsTakeNone() {
        check.sentence("BAD, and nothing happens: no page is taken");
        duePut("behind refused calls", s -> {
            Kit.put(s, 0, 1, 4, 10);
            s.put(64, 0);
            s.put(0, 0);
            s.shred(0);
            s.shred(1);
        }, 0, 20, 4, 5, 6, 7);
    }

    private static void shredTakesPagesToo() {
        check.sentence("to write, a page is taken: by a shred as by a put");
        duePut("behind a shred of three pages", s -> {
            Kit.put(s, 0, 1, 4, 10);
            Kit.put(s, 1, 1, 4, 20);
            Kit.shred(s, 1, 30);
        }, 0, 40, 11, 12, 13, 14);
        Subject s = new Subject();
        Kit.put(s, 0, 1, 4, 10);
        Kit.shred(s, 0, 20);
        check.due("cell(1), the root alone", s.cell(1), 4);
        Kit.put(s, 0, 1, 4, 30);
        check.due("cell(1), behind a shred of one page", s.cell(1), 8);
        check.due("disk(320), the data's kind", s.disk(5 * 64), 2);
    }

    private static void fullestTree() {
        check.sentence("a page that is not live is taken, though many are live");
        Run full = s -> {
            for (int object = 0; object < 64; object++) {
                Kit.put(s, object, 1, 0, 1 + 4 * object);
            }
        };
        Picture before = Picture.of(full);
        check.due("live pages", before.counts[3], 85);
        Picture p = Picture.of(full.then(s -> check.due("put", Kit.put(s, 63, 9, 96, 1000), 1)));
        check.due("live pages", p.counts[3], 86);
        for (int i = 0; i < Picture.DISK_BYTES; i++) {
            if (before.live[i / 64]) {
                check.due("disk(" + i + "), live", p.disk[i], before.disk[i]);
            }
        }
        for (int object = 0; object < 64; object++) {
            check.due("size(" + object + ")", p.sizes[object], object == 63 ? 96 : 0);
        }
    }
}
