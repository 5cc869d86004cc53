import java.util.ArrayList;
import java.util.List;
import java.util.Set;

/**
 * Long runs of calls, drawn by a fixed rule, on the store and on the plain model of the document. What a run
 * comes to is looked at on new objects, so that no object is called more than 512 times.
 */
public final class ModelTest {
    private static final int RUNS = 160;
    private static final int[] EDGES = {Integer.MIN_VALUE, -2, -1, 0, 1, 63, 64, 199, 200, 201, 12799, 12800,
        Integer.MAX_VALUE};
    private static final Check check = new Check();

    private final int run;
    private final Subject subject = new Subject();
    private final PlainModel model = new PlainModel();
    private final List<Run> changes = new ArrayList<>();
    private long seed;
    private long nextKey;

    private ModelTest(int run) {
        this.run = run;
        seed = run * 1000003L + 17;
        nextKey = run;
    }

    public static void main(String[] args) {
        check.sentence("the document, all of it");
        for (int run = 0; run < RUNS && !check.failed(); run++) {
            new ModelTest(run).go();
        }
        check.end();
    }

    private int draw(int bound) {
        seed = seed * 6364136223846793005L + 1442695040888963407L;
        return (int) ((seed >>> 33) % bound);
    }

    private long drawKey() {
        int way = draw(20);
        if (way == 0) {
            return 0;
        }
        if (way == 1) {
            return nextKey;
        }
        nextKey = way < 10 ? nextKey + 1 : seed;
        return nextKey;
    }

    /**
     * Runs differ in how many objects they touch and how often the power goes. Every second one spends few calls
     * on what is refused, and so comes round the end of the disk; the others ask in between.
     */
    private void go() {
        boolean dense = run % 2 == 0;
        while (subject.callsLeft() > 60 && !check.failed()) {
            if (dense) {
                ready();
            }
            change(dense ? 6 : 20, dense ? 10 : 40);
            if (!dense) {
                ask();
            }
        }
        dueState();
    }

    private void ready() {
        if (!model.on && draw(3) > 0) {
            due("power()", s -> s.power() ? 1 : 0, model.power() ? 1 : 0);
        }
        if (model.on && model.row.size() < 4) {
            supplyMany(4 - model.row.size());
        }
    }

    private int drawObject() {
        int objects = run % 3 == 0 ? 5 : 66;
        int object = draw(objects) - (objects > 64 ? 1 : 0);
        for (int k = 0; k < 64 && draw(4) > 0 && size(object) < 0; k++) {
            object = draw(64);
        }
        return object;
    }

    /** Of a hundred changes, the ones below the first bound supply keys, and those below the second feed. */
    private void change(int supplying, int feeding) {
        int way = draw(100);
        if (way < supplying) {
            supplyMany(draw(3) == 0 ? draw(12) : 4);
        } else if (way < feeding) {
            feedMany(draw(2) == 0 ? draw(26) : draw(3));
        } else if (way < 70) {
            int object = draw(20) == 0 ? EDGES[draw(EDGES.length)] : draw(run % 3 == 0 ? 5 : 64);
            int n = draw(8) == 0 ? draw(100) - 2 : draw(model.tape.size() + 1);
            due("put(" + object + ", " + n + ")", s -> s.put(object, n), model.put(object, n));
        } else if (way < 90) {
            int object = drawObject();
            due("shred(" + object + ")", s -> s.shred(object), model.shred(object));
        } else {
            powerChange(way);
        }
    }

    private void supplyMany(int keys) {
        for (int k = 0; k < keys; k++) {
            long key = drawKey();
            due("supply(" + key + ")", s -> s.supply(key) ? 1 : 0, model.supply(key) ? 1 : 0);
        }
    }

    private void feedMany(int words) {
        for (int k = 0; k < words; k++) {
            int v = draw(Integer.MAX_VALUE) * 2 + draw(2);
            due("feed(" + v + ")", s -> s.feed(v), model.feed(v));
        }
    }

    private void powerChange(int way) {
        int faults = run / 2 % 4;
        if (way < 94 && faults > 0) {
            int n = draw(10) == 0 ? draw(210) - 4 : draw(14 * faults);
            due("arm(" + n + ")", s -> s.arm(n) ? 1 : 0, model.arm(n) ? 1 : 0);
        } else if (way < 96 && model.armed < 0 && faults > 1) {
            // not while it is armed: whether an arming outlasts a cut, the document leaves open
            due("cut()", s -> s.cut() ? 1 : 0, model.cut() ? 1 : 0);
        } else if (way > 95) {
            due("power()", s -> s.power() ? 1 : 0, model.power() ? 1 : 0);
        }
    }

    private void due(String call, Refusal.Call change, long want) {
        check.due("run " + run + ", change " + changes.size() + ", " + call, change.on(subject), want);
        changes.add(s -> change.on(s));
    }

    /** One of the calls that change nothing, with a number at or near an edge. */
    private void ask() {
        String at = "run " + run + ", behind change " + changes.size() + ", ";
        int edge = EDGES[draw(EDGES.length)];
        int object = draw(64);
        switch (draw(8)) {
            case 0 -> check.due(at + "size(" + edge + ")", subject.size(edge), size(edge));
            case 1 -> check.due(at + "at(" + object + ", " + edge + ")", subject.at(object, edge), at(object, edge));
            case 2 -> check.due(at + "at(" + edge + ", 0)", subject.at(edge, 0), at(edge, 0));
            case 3 -> check.due(at + "live(" + edge + ")", subject.live(edge), model.live().contains(edge));
            case 4 -> check.due(at + "knownAt(" + edge + ")", subject.knownAt(edge), knownAt(edge));
            case 5 -> check.due(at + "count(3)", subject.count(3), model.live().size());
            case 6 -> check.due(at + "count(7)", subject.count(7), model.known().size());
            default -> check.due(at + "known(" + nextKey + ")", subject.known(nextKey),
                model.known().contains(nextKey));
        }
    }

    private int size(int object) {
        if (!model.on || object < 0 || object > 63) {
            return -2;
        }
        return model.bytes(object) == null ? -1 : model.bytes(object).size();
    }

    private int at(int object, int i) {
        int size = size(object);
        return size == -2 ? -2 : i < 0 || i >= size ? -1 : model.bytes(object).get(i);
    }

    private long knownAt(int k) {
        List<Long> known = model.known();
        return k < 0 || k >= known.size() ? 0 : known.get(k);
    }

    private void dueState() {
        Picture p = Picture.of(s -> changes.forEach(change -> change.on(s)));
        String at = "run " + run + " at its end, ";
        for (int i = 0; i < Picture.DISK_BYTES; i++) {
            if (!model.open[i]) {
                check.due(at + "disk(" + i + ")", p.disk[i], model.disk[i]);
            }
        }
        check.due(at + "cell(0)", p.cell[0], model.cellKey);
        check.due(at + "cell(1)", p.cell[1], model.cellPage);
        Set<Integer> live = model.live();
        p.dueLive(check, at, live.stream().mapToInt(page -> page).toArray());
        List<Long> known = model.known();
        p.dueKnown(check, at, known.stream().mapToLong(key -> key).toArray());
        p.dueCounts(check, at, model.on ? 1 : 0, model.row.size(), model.tape.size(), live.size(), dueObjects(at, p),
            model.written, model.steps, known.size());
    }

    private int dueObjects(String at, Picture p) {
        int there = 0;
        for (int object = 0; object < 64; object++) {
            check.due(at + "size(" + object + ")", p.sizes[object], size(object));
            for (int i = 0; i < p.bytes[object].length; i++) {
                check.due(at + "at(" + object + ", " + i + ")", p.bytes[object][i], at(object, i));
            }
            there += model.bytes(object) == null ? 0 : 1;
        }
        return there;
    }
}
