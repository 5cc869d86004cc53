import java.util.List;
import java.util.Set;

/** Long runs of calls, drawn by a fixed rule, on the store and on the plain model of the document. */
public final class ModelTest {
    private static final int RUNS = 60, CHANGES = 512;
    private static final Check check = new Check();

    private long seed;
    private long nextKey;
    private ShredStore store;
    private PlainModel model;

    public static void main(String[] args) {
        for (int run = 0; run < RUNS && !check.failed(); run++) {
            new ModelTest().run(run);
        }
        check.end();
    }

    private int draw(int bound) {
        seed = seed * 6364136223846793005L + 1442695040888963407L;
        return (int) ((seed >>> 33) % bound);
    }

    private long drawKey() {
        int way = draw(20);
        if (way == 0) {
            return 0;
        }
        if (way == 1) {
            return nextKey;
        }
        nextKey = way < 10 ? nextKey + 1 : seed;
        return nextKey;
    }

    private void run(int run) {
        seed = run * 1000003L + 17;
        nextKey = run;
        store = new ShredStore();
        model = new PlainModel();
        // runs differ in how many objects they touch and how often the power goes
        int objects = run % 3 == 0 ? 5 : 66;
        int faults = run % 4;
        for (int call = 0; call < CHANGES && !check.failed(); call++) {
            String at = "run " + run + " call " + call + " ";
            if (change(at, objects, faults)) {
                dueState(at);
            }
        }
    }

    /** True: the disk may have changed. */
    private boolean change(String at, int objects, int faults) {
        int object = draw(objects) - (objects > 64 ? 1 : 0);
        int way = draw(100);
        if (way < 50) {
            long key = drawKey();
            check.due(at + "supply(" + key + ")", store.supply(key), model.supply(key));
        } else if (way < 70) {
            // some come in bursts, so that there are objects of two pages too
            for (int words = draw(3) == 0 ? draw(26) : 1; words > 0; words--) {
                int v = draw(Integer.MAX_VALUE) * 2 + draw(2);
                check.due(at + "feed(" + v + ")", store.feed(v), model.feed(v));
            }
        } else if (way < 84) {
            int n = draw(8) == 0 ? draw(100) - 2 : draw(model.tape.size() + 1);
            check.due(at + "put(" + object + ", " + n + ")", store.put(object, n), model.put(object, n));
            return true;
        } else if (way < 90) {
            check.due(at + "shred(" + object + ")", store.shred(object), model.shred(object));
            return true;
        } else if (way < 93 && faults > 0) {
            int n = draw(10) == 0 ? draw(210) - 4 : draw(10 * faults);
            check.due(at + "arm(" + n + ")", store.arm(n), model.arm(n));
        } else if (way == 93 && faults == 3) {
            check.due(at + "cut()", store.cut(), model.cut());
        } else if (way > 93) {
            check.due(at + "power()", store.power(), model.power());
        }
        return false;
    }

    private void dueState(String at) {
        for (int i = 0; i < Kit.DISK_BYTES; i++) {
            check.due(at + "disk(" + i + ")", store.disk(i), model.disk[i]);
        }
        check.due(at + "cell(0)", store.cell(0), model.cellKey);
        check.due(at + "cell(1)", store.cell(1), model.cellPage);
        Set<Integer> live = model.live();
        for (int page = 0; page < 200; page++) {
            check.due(at + "live(" + page + ")", store.live(page), live.contains(page));
        }
        List<Long> known = model.known();
        for (int k = 0; k < known.size(); k++) {
            check.due(at + "knownAt(" + k + ")", store.knownAt(k), known.get(k));
        }
        for (long key : model.supplied) {
            check.due(at + "known(" + key + ")", store.known(key), known.contains(key));
        }
        int there = dueObjects(at);
        int[] counts = {model.on ? 1 : 0, model.row.size(), model.tape.size(), live.size(), there,
            model.written, model.steps, known.size()};
        for (int what = 0; what < counts.length; what++) {
            check.due(at + "count(" + what + ")", store.count(what), counts[what]);
        }
    }

    private int dueObjects(String at) {
        int there = 0;
        for (int object = 0; object < 64; object++) {
            List<Integer> bytes = model.bytes(object);
            int size = bytes == null ? -1 : bytes.size();
            check.due(at + "size(" + object + ")", store.size(object), model.on ? size : -2);
            for (int i = -1; i <= Math.max(size, 0); i++) {
                int want = i < 0 || i >= size ? -1 : bytes.get(i);
                check.due(at + "at(" + object + ", " + i + ")", store.at(object, i), model.on ? want : -2);
            }
            there += bytes == null ? 0 : 1;
        }
        return there;
    }
}
