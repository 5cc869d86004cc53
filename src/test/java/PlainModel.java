import java.util.ArrayList;
import java.util.HashSet;
import java.util.List;
import java.util.Set;

/**
 * The document once more, byte by byte and without anything kept that could be out of date: what ModelTest
 * holds ShredStore against.
 */
final class PlainModel {
    final int[] disk = new int[Picture.DISK_BYTES];
    /** Bytes of the disk that the document leaves open: the pages of entries that are none. */
    final boolean[] open = new boolean[Picture.DISK_BYTES];
    long cellKey = 0;
    int cellPage = -1;
    boolean on = true;
    int armed = -1;
    final List<Long> row = new ArrayList<>();
    final Set<Long> supplied = new HashSet<>();
    final List<Integer> tape = new ArrayList<>();
    int written = 0;
    int steps = 0;
    private int searchFrom = 0;
    private final Set<Integer> writtenNow = new HashSet<>();

    /** Told by a step when the power goes with it. */
    private static final class PowerWent extends Exception {
        private static final long serialVersionUID = 1;
    }

    boolean supply(long key) {
        if (!on || key == 0 || row.size() == 40 || supplied.contains(key)) {
            return false;
        }
        supplied.add(key);
        row.add(key);
        return true;
    }

    int feed(int v) {
        if (!on || tape.size() + 4 > 96) {
            return -2;
        }
        for (int shift = 24; shift >= 0; shift -= 8) {
            tape.add(v >>> shift & 255);
        }
        return tape.size();
    }

    int put(int object, int n) {
        if (!on || object < 0 || object > 63 || n < 0 || tape.size() < n || row.size() < 4) {
            return -2;
        }
        int pages = Math.max(1, (n + 47) / 48);
        if (200 - live().size() < pages + 3) {
            return -2;
        }
        return change(object, new ArrayList<>(tape.subList(0, n)));
    }

    int shred(int object) {
        if (!on || object < 0 || object > 63 || entry(object) == null || row.size() < 3) {
            return -2;
        }
        return 200 - live().size() < 3 ? -2 : change(object, null);
    }

    private int change(int object, List<Integer> bytes) {
        writtenNow.clear();
        try {
            long[] entry = {0, 0};
            if (bytes != null) {
                entry[0] = row.remove(0);
                entry[1] = writeData(entry[0], bytes);
                tape.clear();
            }
            writeBranch(object, entry);
            return 1;
        } catch (PowerWent e) {
            return 0;
        }
    }

    private int writeData(long key, List<Integer> bytes) throws PowerWent {
        int next = 65535;
        int pages = Math.max(1, (bytes.size() + 47) / 48);
        for (int p = pages - 1; p >= 0; p--) {
            int[] body = new int[51];
            int count = Math.min(48, bytes.size() - 48 * p);
            body[0] = next / 256;
            body[1] = next % 256;
            body[2] = count;
            for (int i = 0; i < count; i++) {
                body[3 + i] = bytes.get(48 * p + i);
            }
            next = write(2, key, body);
        }
        return next;
    }

    private void writeBranch(int object, long[] leaf) throws PowerWent {
        long[][] root = node(cellKey, cellPage);
        long[][] upper = node(root[object / 16][0], (int) root[object / 16][1]);
        long[][] lower = node(upper[object / 4 % 4][0], (int) upper[object / 4 % 4][1]);
        lower[object % 4] = leaf;
        upper[object / 4 % 4] = writeNode(lower, false);
        root[object / 16] = writeNode(upper, false);
        long[] cell = writeNode(root, true);
        step();
        cellKey = cell[0];
        cellPage = (int) cell[1];
    }

    private long[] writeNode(long[][] entries, boolean always) throws PowerWent {
        long[] flat = new long[8];
        boolean some = always;
        for (int e = 0; e < 4; e++) {
            flat[2 * e] = entries[e][0];
            flat[2 * e + 1] = entries[e][1];
            some |= entries[e][0] != 0;
        }
        if (!some) {
            return new long[] {0, 0};
        }
        long key = row.remove(0);
        return new long[] {key, write(1, key, Kit.node(flat))};
    }

    private int write(int kind, long key, int[] body) throws PowerWent {
        Set<Integer> live = live();
        int page = searchFrom;
        while (live.contains(page) || writtenNow.contains(page)) {
            page = (page + 1) % 200;
        }
        long writing = 0;
        for (int p = 0; p < 200; p++) {
            writing = Math.max(writing, Kit.number(disk, 64 * p + 1, 4));
        }
        writing++;
        int[] bytes = new int[64];
        bytes[0] = kind;
        for (int i = 0; i < 4; i++) {
            bytes[1 + i] = (int) (writing >>> (24 - 8 * i) & 255);
        }
        for (int i = 0; i < 8; i++) {
            bytes[5 + i] = (int) (Kit.pad(key, writing, 100) >>> (56 - 8 * i) & 255);
        }
        boolean[] left = new boolean[64];
        for (int i = 0; i < 51; i++) {
            bytes[13 + i] = body[i] ^ Kit.padByte(key, writing, i);
            left[13 + i] = kind == 1 && Kit.isOpen(body, i);
        }
        for (int from = 48; from >= 0; from -= 16) {
            step();
            System.arraycopy(bytes, from, disk, 64 * page + from, 16);
            System.arraycopy(left, from, open, 64 * page + from, 16);
        }
        written++;
        writtenNow.add(page);
        searchFrom = (page + 1) % 200;
        return page;
    }

    private void step() throws PowerWent {
        if (armed == 0) {
            cut();
            throw new PowerWent();
        }
        if (armed > 0) {
            armed--;
        }
        steps++;
    }

    boolean cut() {
        boolean was = on;
        on = false;
        armed = -1;
        row.clear();
        tape.clear();
        return was;
    }

    boolean arm(int n) {
        if (!on || n < 0 || n > 200) {
            return false;
        }
        armed = n;
        return true;
    }

    boolean power() {
        if (on) {
            return false;
        }
        on = true;
        searchFrom = 0;
        return true;
    }

    private boolean fits(long key, int page) {
        int kind = disk[64 * page];
        return (kind == 1 || kind == 2)
            && Kit.number(disk, 64 * page + 5, 8) == Kit.pad(key, Kit.number(disk, 64 * page + 1, 4), 100);
    }

    private int[] plain(long key, int page) {
        long writing = Kit.number(disk, 64 * page + 1, 4);
        int[] body = new int[51];
        for (int i = 0; i < 51; i++) {
            body[i] = disk[64 * page + 13 + i] ^ Kit.padByte(key, writing, i);
        }
        return body;
    }

    private long[][] node(long key, int page) {
        long[][] entries = new long[4][2];
        if (key != 0) {
            int[] body = plain(key, page);
            for (int e = 0; e < 4; e++) {
                entries[e][0] = Kit.number(body, 10 * e, 8);
                entries[e][1] = Kit.number(body, 10 * e + 8, 2);
            }
        }
        return entries;
    }

    private long[] entry(int object) {
        long[] at = {cellKey, cellPage};
        int[] way = {object / 16, object / 4 % 4, object % 4};
        for (int e : way) {
            at = node(at[0], (int) at[1])[e];
        }
        return at[0] == 0 ? null : at;
    }

    /** The bytes of an object; null when it is not there. */
    List<Integer> bytes(int object) {
        long[] entry = entry(object);
        if (entry == null) {
            return null;
        }
        List<Integer> bytes = new ArrayList<>();
        for (int page = (int) entry[1]; page != 65535;) {
            int[] body = plain(entry[0], page);
            for (int i = 0; i < body[2]; i++) {
                bytes.add(body[3 + i]);
            }
            page = body[0] * 256 + body[1];
        }
        return bytes;
    }

    Set<Integer> live() {
        Set<Integer> live = new HashSet<>();
        addLive(live, cellKey, cellPage, 0);
        return live;
    }

    private void addLive(Set<Integer> live, long key, int page, int depth) {
        if (key == 0) {
            return;
        }
        live.add(page);
        if (depth < 3) {
            for (long[] entry : node(key, page)) {
                addLive(live, entry[0], (int) entry[1], depth + 1);
            }
        } else {
            int[] body = plain(key, page);
            int next = body[0] * 256 + body[1];
            if (next != 65535) {
                addLive(live, key, next, 3);
            }
        }
    }

    List<Long> known() {
        List<Long> known = new ArrayList<>();
        if (cellKey != 0) {
            known.add(cellKey);
        }
        boolean[] told = new boolean[200];
        for (boolean more = true; more;) {
            more = false;
            for (int page = 0; page < 200; page++) {
                more |= !told[page] && disk[64 * page] == 1 && tell(page, known, told);
            }
        }
        return known;
    }

    private boolean tell(int page, List<Long> known, boolean[] told) {
        for (long key : new ArrayList<>(known)) {
            if (fits(key, page)) {
                told[page] = true;
                for (long[] entry : node(key, page)) {
                    if (entry[0] != 0 && !known.contains(entry[0])) {
                        known.add(entry[0]);
                    }
                }
                return true;
            }
        }
        return false;
    }
}
