/** A change by which the power goes with each of its steps in turn. */
final class Steps {
    private final Check check;
    private final String name;
    private final Run before;
    private final Refusal.Call change;
    private final int[] pages;
    private final Picture old;
    private final Picture done;

    /** The change is made behind the run before, and writes these pages, in this order, and then the cell. */
    Steps(Check check, String name, Run before, Refusal.Call change, int... pages) {
        this.check = check;
        this.name = name;
        this.before = before;
        this.change = change;
        this.pages = pages;
        old = Picture.of(before);
        done = Picture.of(before.then(s -> change.on(s)));
    }

    int all() {
        return 4 * pages.length + 1;
    }

    void dueWentWithEach() {
        for (int n = 0; n < all(); n++) {
            dueWentBehind(n);
        }
    }

    private Run armed(int n) {
        return before.then(s -> s.arm(n)).then(s -> check.due(name + " armed with " + n, change.on(s), 0));
    }

    private void dueWentBehind(int n) {
        String when = name + ", gone behind step " + n;
        Picture gone = Picture.of(armed(n));
        gone.dueSameDisk(check, when, diskBehind(n));
        gone.dueCounts(check, when, 0, 0, 0, old.counts[3], old.counts[4], old.counts[5] + n / 4,
            old.counts[6] + n, old.counts[7]);
        Picture back = Picture.of(armed(n).then(s -> check.due(when + ", power()", s.power(), true)));
        back.dueSameDisk(check, when + " and come", gone.disk);
        back.dueSameObjects(check, when + " and come", old);
        back.dueCounts(check, when + " and come", 1, 0, 0);
    }

    /** The disk as it was, but for the parts of 16 bytes that n steps write, each page's last part first. */
    private int[] diskBehind(int n) {
        int[] disk = old.disk.clone();
        for (int step = 0; step < Math.min(n, 4 * pages.length); step++) {
            int from = pages[step / 4] * 64 + (3 - step % 4) * 16;
            System.arraycopy(done.disk, from, disk, from, 16);
        }
        return disk;
    }

    /** Armed with just as many steps as it has, the change is done, and the power stays. */
    void dueDoneWithAll() {
        String when = name + ", armed with all its steps";
        Run run = before.then(s -> s.arm(all())).then(s -> check.due(when, change.on(s), 1));
        Picture.of(run).dueSame(check, when, done);
        check.due(when + ", steps", done.counts[6], old.counts[6] + all());
        check.due(when + ", pages", done.counts[5], old.counts[5] + pages.length);
    }
}
