/** Promise 10: power. */
public final class PowerTest {
    private static final Check check = new Check();

    public static void main(String[] args) {
        powerComes();
        comesWhenItWentByArming();
        itIsOn();
        itIsOnAndArmed();
        allIsReadAgain();
        check.end();
    }

    private static void powerComes() {
        check.sentence("the power comes");
        Subject s = new Subject();
        s.cut();
        check.due("power()", s.power(), true);
        check.due("count(0)", s.count(0), 1);
        check.due("count(1)", s.count(1), 0);
        check.due("count(2)", s.count(2), 0);
        check.due("supply", s.supply(1), true);
        check.due("feed", s.feed(1), 4);
        check.due("size(0)", s.size(0), ShredStore.NONE);
        check.due("arm(0)", s.arm(0), true);
    }

    private static void comesWhenItWentByArming() {
        check.sentence("the power comes, that went by arming");
        Subject s = new Subject();
        s.arm(9);
        check.due("put", Kit.put(s, 0, 1, 4, 1), 0);
        check.due("power()", s.power(), true);
        check.due("count(0)", s.count(0), 1);
        check.due("power() again", s.power(), false);
        check.due("put", Kit.put(s, 0, 1, 4, 11), 1);
    }

    private static void itIsOn() {
        check.sentence("false: it is on");
        check.due("power(), new", new Subject().power(), false);
        Run ready = ((Run) PutTest::filled).then(s -> {
            Kit.supply(s, 100, 5);
            Kit.feed(s, 1, 8);
        });
        Refusal.due(check, "power(), on", ready, s -> s.power() ? 1 : 0, 0, s -> s.put(5, 7));
        Run came = ready.then(s -> s.cut()).then(s -> s.power());
        Refusal.due(check, "power(), come", came, s -> s.power() ? 1 : 0, 0, s -> Kit.put(s, 5, 1, 7, 200));
    }

    private static void itIsOnAndArmed() {
        check.sentence("false: it is on, and stays armed");
        Run armed = ((Run) PutTest::filled).then(s -> {
            Kit.supply(s, 100, 5);
            s.arm(7);
        });
        Refusal.due(check, "power(), armed", armed, s -> s.power() ? 1 : 0, 0,
            s -> check.due("put", s.put(5, 0), 0));
    }

    private static void allIsReadAgain() {
        check.sentence("the disk stays: objects are read as before when the power comes");
        Run run = PutTest::filled;
        Picture before = Picture.of(run);
        Run twice = run.then(s -> {
            s.cut();
            s.power();
            s.cut();
            s.power();
        });
        Picture.of(twice).dueSame(check, "on again", before);
    }
}
