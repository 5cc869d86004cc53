/** Promise 8: cut. */
public final class CutTest {
    private static final Check check = new Check();

    public static void main(String[] args) {
        powerGoes();
        rowAndTapeAreEmpty();
        diskStays();
        itIsOff();
        itIsOffByArming();
        check.end();
    }

    private static void powerGoes() {
        check.sentence("the power goes");
        Subject s = new Subject();
        check.due("cut()", s.cut(), true);
        check.due("count(0)", s.count(0), 0);
        check.due("power()", s.power(), true);
        check.due("cut() again", s.cut(), true);
        check.due("count(0)", s.count(0), 0);
    }

    private static void rowAndTapeAreEmpty() {
        check.sentence("row and tape are empty then");
        Subject s = new Subject();
        Kit.supply(s, 1, 6);
        Kit.feed(s, 1, 8);
        s.cut();
        check.due("count(1), off", s.count(1), 0);
        check.due("count(2), off", s.count(2), 0);
        s.power();
        check.due("count(1), on", s.count(1), 0);
        check.due("count(2), on", s.count(2), 0);
        check.due("put", s.put(0, 0), ShredStore.BAD);
        Kit.supply(s, 11, 4);
        check.due("put of a byte", s.put(0, 1), ShredStore.BAD);
        check.due("feed", s.feed(0x09080706), 4);
        check.due("put", s.put(0, 4), 1);
        check.due("cell(0)", s.cell(0), 14);
        check.due("at(0, 0)", s.at(0, 0), 9);
    }

    private static void diskStays() {
        check.sentence("the disk stays when the power goes");
        Run run = PutTest::filled;
        Picture before = Picture.of(run);
        Picture off = Picture.of(run.then(s -> s.cut()));
        off.dueSameDisk(check, "off", before.disk);
        off.dueCounts(check, "off", 0, 0, 0, before.counts[3], before.counts[4], before.counts[5], before.counts[6],
            before.counts[7]);
        check.due("cell(0), off", off.cell[0], before.cell[0]);
        check.due("cell(1), off", off.cell[1], before.cell[1]);
        Picture.of(run.then(s -> s.cut()).then(s -> s.power())).dueSame(check, "on", before);
    }

    private static void itIsOff() {
        check.sentence("false: it is off");
        Run off = ((Run) PutTest::filled).then(s -> s.cut());
        Refusal.due(check, "cut(), off", off, s -> s.cut() ? 1 : 0, 0, s -> {
            check.due("power()", s.power(), true);
            Kit.put(s, 1, 1, 4, 100);
        });
    }

    private static void itIsOffByArming() {
        check.sentence("false: it is off, by arming");
        Subject s = new Subject();
        s.arm(0);
        check.due("put", Kit.put(s, 0, 1, 4, 1), 0);
        check.due("cut()", s.cut(), false);
        check.due("power()", s.power(), true);
        check.due("cut()", s.cut(), true);
    }
}
