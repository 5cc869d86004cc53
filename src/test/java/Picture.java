/**
 * All that can be asked of an object behind a run of calls. There are far more questions than the calls that an
 * object is promised for, so the run is made again on a new one whenever they are used up.
 */
final class Picture {
    static final int PAGES = 200, DISK_BYTES = 12800, OBJECTS = 64, COUNTS = 8;

    final int[] disk = new int[DISK_BYTES];
    final long[] cell = new long[2];
    final boolean[] live = new boolean[PAGES];
    final int[] counts = new int[COUNTS];
    final long[] known;
    final int[] sizes = new int[OBJECTS];
    /** Empty for an object that is not there. */
    final int[][] bytes = new int[OBJECTS][];

    private final Run run;
    private Subject subject = null;

    private Picture(Run run) {
        this.run = run;
        for (int what = 0; what < COUNTS; what++) {
            counts[what] = next().count(what);
        }
        cell[0] = next().cell(0);
        cell[1] = next().cell(1);
        for (int i = 0; i < DISK_BYTES; i++) {
            disk[i] = next().disk(i);
        }
        for (int page = 0; page < PAGES; page++) {
            live[page] = next().live(page);
        }
        known = new long[Math.max(0, counts[7])];
        for (int k = 0; k < known.length; k++) {
            known[k] = next().knownAt(k);
        }
        for (int object = 0; object < OBJECTS; object++) {
            sizes[object] = next().size(object);
            bytes[object] = new int[Math.max(0, sizes[object])];
            for (int i = 0; i < bytes[object].length; i++) {
                bytes[object][i] = next().at(object, i);
            }
        }
    }

    static Picture of(Run run) {
        return new Picture(run);
    }

    private Subject next() {
        if (subject == null || subject.callsLeft() == 0) {
            subject = new Subject();
            run.on(subject);
        }
        return subject;
    }

    int kind(int page) {
        return disk[page * 64];
    }

    long writing(int page) {
        return Kit.number(disk, page * 64 + 1, 4);
    }

    long tag(int page) {
        return Kit.number(disk, page * 64 + 5, 8);
    }

    /** The 51 bytes of a page without the pad. */
    int[] body(int page, long key) {
        int[] body = new int[51];
        for (int i = 0; i < 51; i++) {
            body[i] = disk[page * 64 + 13 + i] ^ Kit.padByte(key, writing(page), i);
        }
        return body;
    }

    void dueSame(Check check, String when, Picture want) {
        dueSameDisk(check, when, want.disk);
        for (int what = 0; what < COUNTS; what++) {
            check.due(when + ", count(" + what + ")", counts[what], want.counts[what]);
        }
        dueSameObjects(check, when, want);
    }

    void dueSameDisk(Check check, String when, int[] want) {
        for (int i = 0; i < DISK_BYTES; i++) {
            check.due(when + ", disk(" + i + ")", disk[i], want[i]);
        }
    }

    /** What can be come to from the cell: the same keys, pages and objects. */
    void dueSameObjects(Check check, String when, Picture want) {
        check.due(when + ", cell(0)", cell[0], want.cell[0]);
        check.due(when + ", cell(1)", cell[1], want.cell[1]);
        for (int page = 0; page < PAGES; page++) {
            check.due(when + ", live(" + page + ")", live[page], want.live[page]);
        }
        check.due(when + ", keys known", known.length, want.known.length);
        for (int k = 0; k < Math.min(known.length, want.known.length); k++) {
            check.due(when + ", knownAt(" + k + ")", known[k], want.known[k]);
        }
        for (int object = 0; object < OBJECTS; object++) {
            check.due(when + ", size(" + object + ")", sizes[object], want.sizes[object]);
            for (int i = 0; i < Math.min(bytes[object].length, want.bytes[object].length); i++) {
                check.due(when + ", at(" + object + ", " + i + ")", bytes[object][i], want.bytes[object][i]);
            }
        }
    }

    void dueCounts(Check check, String when, int... want) {
        for (int what = 0; what < want.length; what++) {
            check.due(when + ", count(" + what + ")", counts[what], want[what]);
        }
    }

    void dueKnown(Check check, String when, long... want) {
        check.due(when + ", count(7)", counts[7], want.length);
        for (int k = 0; k < Math.min(known.length, want.length); k++) {
            check.due(when + ", knownAt(" + k + ")", known[k], want[k]);
        }
    }

    /** The pages that are live, and no other. */
    void dueLive(Check check, String when, int... want) {
        boolean[] due = new boolean[PAGES];
        for (int page : want) {
            due[page] = true;
        }
        for (int page = 0; page < PAGES; page++) {
            check.due(when + ", live(" + page + ")", live[page], due[page]);
        }
        check.due(when + ", count(3)", counts[3], want.length);
    }

    /** A page that was written: kind, writing, tag, and its 51 bytes. */
    void duePage(Check check, int page, int kind, long writing, long key, int[] want) {
        String name = "page " + page + ", ";
        check.due(name + "kind", kind(page), kind);
        check.due(name + "writing", writing(page), writing);
        check.due(name + "tag", tag(page), Kit.pad(key, writing, 100));
        int[] body = body(page, key);
        for (int i = 0; i < 51; i++) {
            if (kind != 1 || !Kit.isOpen(want, i)) {
                check.due(name + "byte " + i, body[i], want[i]);
            }
        }
    }
}
