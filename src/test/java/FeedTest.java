/** Promise 3: feed. */
public final class FeedTest {
    private static final Check check = new Check();

    public static void main(String[] args) {
        howManyItHas();
        highestFirst();
        behindTheTape();
        moreThan96();
        powerIsOff();
        refusalsChangeNothing();
        check.end();
    }

    private static void howManyItHas() {
        check.sentence("four bytes come behind the tape. How many it has");
        Subject s = new Subject();
        for (int n = 4; n <= 96; n += 4) {
            check.due("feed", s.feed(-n), n);
            check.due("count(2)", s.count(2), n);
        }
        Kit.supply(s, 1, 4);
        s.put(0, 5);
        check.due("feed, behind a put", s.feed(1), 4);
    }

    private static void highestFirst() {
        check.sentence("four bytes, the highest first");
        int[] words = {0x01020304, 0xF1E2D3C4, Integer.MIN_VALUE, Integer.MAX_VALUE, -1, 0, 255, 0xFF000000};
        Subject s = new Subject();
        Kit.supply(s, 1, 4);
        for (int word : words) {
            s.feed(word);
        }
        s.put(63, 32);
        for (int i = 0; i < 32; i++) {
            check.due("at(63, " + i + ")", s.at(63, i), words[i / 4] >>> (24 - 8 * (i % 4)) & 255);
        }
    }

    private static void behindTheTape() {
        check.sentence("come behind the tape");
        Subject s = new Subject();
        Kit.supply(s, 1, 4);
        Kit.feed(s, 10, 96);
        check.due("put", s.put(0, 96), 1);
        for (int i = 0; i < 96; i++) {
            check.due("at(0, " + i + ")", s.at(0, i), 10 + i);
        }
    }

    private static void moreThan96() {
        check.sentence("BAD: there would be more than 96");
        Subject s = new Subject();
        Kit.feed(s, 10, 92);
        check.due("count(2)", s.count(2), 92);
        check.due("feed, the 24th", s.feed(0x66676869), 96);
        check.due("feed, the 25th", s.feed(-1), ShredStore.BAD);
        check.due("feed, the 26th", s.feed(-1), ShredStore.BAD);
        check.due("count(2)", s.count(2), 96);
        Kit.supply(s, 1, 4);
        check.due("put", s.put(0, 96), 1);
        for (int i = 0; i < 96; i++) {
            check.due("at(0, " + i + ")", s.at(0, i), 10 + i);
        }
    }

    private static void powerIsOff() {
        check.sentence("BAD: the power is off");
        Subject s = new Subject();
        s.feed(1);
        s.cut();
        check.due("feed, off", s.feed(1), ShredStore.BAD);
        check.due("count(2), off", s.count(2), 0);
        s.power();
        check.due("count(2), on", s.count(2), 0);
        check.due("feed, on", s.feed(1), 4);
    }

    private static void refusalsChangeNothing() {
        check.sentence("feed that answers BAD: no byte comes behind the tape");
        Run full = s -> {
            Kit.put(s, 0, 1, 4, 10);
            Kit.supply(s, 20, 6);
            Kit.feed(s, 1, 96);
        };
        Refusal.due(check, "feed, 96 there", full, s -> s.feed(7), ShredStore.BAD, s -> s.put(1, 96));
        Refusal.due(check, "feed, off", full.then(s -> s.cut()), s -> s.feed(7), ShredStore.BAD, s -> {
            s.power();
            Kit.put(s, 1, 9, 4, 100);
        });
    }
}
