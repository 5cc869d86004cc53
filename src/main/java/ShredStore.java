/**
 * A store that forgets: every change writes a branch of a tree of keys anew, and what was left out can no
 * longer be read from the cell and the disk.
 */
public final class ShredStore {
    public static final int NONE = -1, BAD = -2;

    private static final int PAGES = 200, PAGE_BYTES = 64, PAGE_WORDS = 8;
    private static final int DISK_BYTES = PAGES * PAGE_BYTES;
    private static final int PARTS = 4, PART_WORDS = PAGE_WORDS / PARTS;

    private static final int NODE = 1, DATA = 2;
    private static final int TAG_PLACE = 100;
    private static final int BODY_BYTES = 51, BODY_WORDS = 7;

    private static final int FAN = 4, ENTRY_BYTES = 10, KEY_BYTES = 8, LINK_BYTES = 2;
    private static final int OBJECTS = 64;

    private static final int NO_NEXT = 65535, LENGTH_AT = 2, BYTES_AT = 3, DATA_BYTES = 48;

    private static final int BRANCH = 3;
    private static final int ROW_LIMIT = 40, REMEMBERED_LIMIT = 3000, TAPE_LIMIT = 96, ARM_LIMIT = 200;

    private final Disk store = new Disk();
    private final Power mains = new Power();
    private final KeyRow row = new KeyRow();
    private final Tape tape = new Tape();
    private final Tree tree = new Tree(store);
    private final Reach reach = new Reach(store);
    private final Writer writer = new Writer(store, mains, tree);

    public ShredStore() {
    }

    public boolean supply(long key) {
        return mains.isOn() && row.accept(key);
    }

    public int feed(int v) {
        if (!mains.isOn() || !tape.append(v)) {
            return BAD;
        }
        return tape.length();
    }

    public int put(int object, int n) {
        if (!mains.isOn() || !isObject(object) || !tape.has(n) || row.length() < 1 + BRANCH) {
            return BAD;
        }
        if (freshTree().freePages() < dataPages(n) + BRANCH) {
            return BAD;
        }
        writer.begin();
        long key = row.take();
        int first = writer.writeData(key, tape, n);
        boolean done = first != NONE && writer.writeBranch(object, key, first, row);
        tape.clear();
        return outcome(done);
    }

    public int shred(int object) {
        if (!mains.isOn() || !isObject(object) || row.length() < BRANCH) {
            return BAD;
        }
        if (!freshTree().hasObject(object) || tree.freePages() < BRANCH) {
            return BAD;
        }
        writer.begin();
        return outcome(writer.writeBranch(object, 0, 0, row));
    }

    public int size(int object) {
        if (!mains.isOn() || !isObject(object)) {
            return BAD;
        }
        return freshTree().objectSize(object);
    }

    public int at(int object, int i) {
        if (!mains.isOn() || !isObject(object)) {
            return BAD;
        }
        return freshTree().objectByte(object, i);
    }

    public boolean cut() {
        if (!mains.isOn()) {
            return false;
        }
        mains.goOff();
        loseInputs();
        return true;
    }

    public boolean arm(int n) {
        if (!mains.isOn() || n < 0 || n > ARM_LIMIT) {
            return false;
        }
        mains.armWith(n);
        return true;
    }

    public boolean power() {
        if (mains.isOn()) {
            return false;
        }
        mains.goOn();
        writer.startOver();
        return true;
    }

    public int disk(int i) {
        return store.byteAt(i);
    }

    public long cell(int what) {
        switch (what) {
            case 0:
                return store.cellKey();
            case 1:
                return store.cellPage();
            default:
                return 0;
        }
    }

    public boolean known(long key) {
        return freshReach().has(key);
    }

    public long knownAt(int k) {
        return freshReach().keyAt(k);
    }

    public boolean live(int page) {
        return freshTree().isLive(page);
    }

    public int count(int what) {
        switch (what) {
            case 0:
                return mains.isOn() ? 1 : 0;
            case 1:
                return row.length();
            case 2:
                return tape.length();
            case 3:
                return freshTree().liveCount();
            case 4:
                return freshTree().objectCount();
            case 5:
                return writer.pagesWritten();
            case 6:
                return store.stepsDone();
            case 7:
                return freshReach().length();
            default:
                return NONE;
        }
    }

    private Tree freshTree() {
        tree.refresh();
        return tree;
    }

    private Reach freshReach() {
        reach.refresh();
        return reach;
    }

    /** What a change answers; a power that went by arming takes row and tape as one that is cut does. */
    private int outcome(boolean done) {
        if (done) {
            return 1;
        }
        loseInputs();
        return 0;
    }

    private void loseInputs() {
        row.clear();
        tape.clear();
    }

    private static boolean isObject(int object) {
        return object >= 0 && object < OBJECTS;
    }

    private static boolean isPage(int page) {
        return page >= 0 && page < PAGES;
    }

    /** An object without bytes has a page too, so that there is something for its key to fit. */
    private static int dataPages(int n) {
        return n <= DATA_BYTES ? 1 : (n + DATA_BYTES - 1) / DATA_BYTES;
    }

    private static long padOf(long key, long number, long place) {
        long x = key + 7046029254386353131L * number + 2862933555777941757L * place;
        x = (x ^ (x >>> 29)) * 4768777513237032717L;
        return x ^ (x >>> 32);
    }

    /** Whether the power is on, and how many steps it still allows when it is armed. */
    private static final class Power {
        private boolean on = true;
        private int stepsLeft = NONE;

        Power() {
        }

        boolean isOn() {
            return on;
        }

        void armWith(int steps) {
            stepsLeft = steps;
        }

        /** An arming ends with the power that it was told of, so it does not outlast a cut. */
        void goOff() {
            on = false;
            stepsLeft = NONE;
        }

        void goOn() {
            on = true;
        }

        /** To be asked before every step: false says that the power has gone with it. */
        boolean lastsForStep() {
            if (stepsLeft == 0) {
                goOff();
                return false;
            }
            if (stepsLeft > 0) {
                stepsLeft--;
            }
            return on;
        }
    }

    /** The keys that are supplied and not yet taken, and a memory of those that ever were. */
    private static final class KeyRow {
        private final long[] keys = new long[ROW_LIMIT];
        private int length = 0;
        private final long[] remembered = new long[REMEMBERED_LIMIT];
        private int rememberedLength = 0;

        KeyRow() {
        }

        int length() {
            return length;
        }

        boolean accept(long key) {
            if (key == 0 || length >= ROW_LIMIT || wasSupplied(key)) {
                return false;
            }
            keys[length] = key;
            length++;
            if (rememberedLength < REMEMBERED_LIMIT) {
                remembered[rememberedLength] = key;
                rememberedLength++;
            }
            return true;
        }

        private boolean wasSupplied(long key) {
            for (int i = 0; i < rememberedLength; i++) {
                if (remembered[i] == key) {
                    return true;
                }
            }
            return false;
        }

        /** The front key; 0, which is no key, when the row is empty. */
        long take() {
            if (length <= 0) {
                return 0;
            }
            long front = keys[0];
            length--;
            System.arraycopy(keys, 1, keys, 0, length);
            return front;
        }

        /** The memory stays: a key that was lost with the power must not come again. */
        void clear() {
            length = 0;
        }
    }

    /** The bytes that the next object is made of. */
    private static final class Tape {
        private final byte[] bytes = new byte[TAPE_LIMIT];
        private int length = 0;

        Tape() {
        }

        int length() {
            return length;
        }

        boolean has(int n) {
            return n >= 0 && n <= length;
        }

        boolean append(int v) {
            if (length + 4 > TAPE_LIMIT) {
                return false;
            }
            for (int shift = 24; shift >= 0; shift -= 8) {
                bytes[length] = (byte) (v >>> shift);
                length++;
            }
            return true;
        }

        int byteAt(int i) {
            return i < 0 || i >= length ? 0 : bytes[i] & 255;
        }

        void clear() {
            length = 0;
        }
    }

    /** The 51 bytes of a page behind its tag, as they are without the pad. */
    private static final class Body {
        private final long[] words = new long[BODY_WORDS];

        Body() {
        }

        void clear() {
            for (int k = 0; k < BODY_WORDS; k++) {
                words[k] = 0;
            }
        }

        long word(int k) {
            return k < 0 || k >= BODY_WORDS ? 0 : words[k];
        }

        void setWord(int k, long word) {
            if (k >= 0 && k < BODY_WORDS) {
                words[k] = word;
            }
        }

        long entryKey(int entry) {
            return number(entry * ENTRY_BYTES, KEY_BYTES);
        }

        int entryPage(int entry) {
            return (int) number(entry * ENTRY_BYTES + KEY_BYTES, LINK_BYTES);
        }

        void setEntry(int entry, long key, int page) {
            setNumber(entry * ENTRY_BYTES, KEY_BYTES, key);
            setNumber(entry * ENTRY_BYTES + KEY_BYTES, LINK_BYTES, page);
        }

        int nextPage() {
            return (int) number(0, LINK_BYTES);
        }

        int dataLength() {
            return (int) number(LENGTH_AT, 1);
        }

        int dataByte(int i) {
            return (int) number(BYTES_AT + i, 1);
        }

        void setData(int next, Tape tape, int from, int length) {
            clear();
            setNumber(0, LINK_BYTES, next);
            setByte(LENGTH_AT, length);
            for (int i = 0; i < length; i++) {
                setByte(BYTES_AT + i, tape.byteAt(from + i));
            }
        }

        private void setByte(int i, long value) {
            if (i < 0 || i >= BODY_BYTES) {
                return;
            }
            int shift = 56 - 8 * (i % 8);
            words[i / 8] = (words[i / 8] & ~(255L << shift)) | ((value & 255L) << shift);
        }

        private long number(int from, int bytes) {
            if (from < 0 || from > BODY_BYTES - bytes) {
                return 0;
            }
            long value = 0;
            for (int i = from; i < from + bytes; i++) {
                value = (value << 8) | ((words[i / 8] << (8 * (i % 8))) >>> 56);
            }
            return value;
        }

        private void setNumber(int from, int bytes, long value) {
            for (int i = 0; i < bytes; i++) {
                setByte(from + i, value >>> (8 * (bytes - 1 - i)));
            }
        }
    }

    /**
     * The pages and the cell. Eight bytes stand in each word: a page's five bytes of kind and writing shift
     * its tag and its body by 40 bits, and a part of 16 bytes is two words.
     */
    private static final class Disk {
        private final long[] words = new long[PAGES * PAGE_WORDS];
        private long cellKey = 0;
        private int cellPage = NONE;
        private int stepsDone = 0;

        Disk() {
        }

        long cellKey() {
            return cellKey;
        }

        int cellPage() {
            return cellPage;
        }

        /** Every change of the disk is a step, so this also tells readers whether theirs is out of date. */
        int stepsDone() {
            return stepsDone;
        }

        int byteAt(int i) {
            return i < 0 || i >= DISK_BYTES ? NONE : (int) ((words[i / 8] << (8 * (i % 8))) >>> 56);
        }

        boolean fits(long key, int page, int kind) {
            return isPage(page) && kindOf(page) == kind
                && wordBehindHead(page, 0) == padOf(key, writingOf(page), TAG_PLACE);
        }

        void readBody(long key, int page, Body body) {
            if (!isPage(page)) {
                body.clear();
                return;
            }
            long writing = writingOf(page);
            for (int k = 0; k < BODY_WORDS; k++) {
                body.setWord(k, wordBehindHead(page, k + 1) ^ padOf(key, writing, k));
            }
        }

        long nextWriting() {
            long greatest = 0;
            for (int page = 0; page < PAGES; page++) {
                greatest = Math.max(greatest, writingOf(page));
            }
            return greatest + 1;
        }

        void writePart(int page, int part, long[] sheet) {
            if (!isPage(page) || part < 0 || part >= PARTS || sheet == null || sheet.length < PAGE_WORDS) {
                return;
            }
            int from = part * PART_WORDS;
            System.arraycopy(sheet, from, words, page * PAGE_WORDS + from, PART_WORDS);
            stepsDone++;
        }

        void writeCell(long key, int page) {
            cellKey = key;
            cellPage = page;
            stepsDone++;
        }

        private int kindOf(int page) {
            return (int) (words[page * PAGE_WORDS] >>> 56);
        }

        private long writingOf(int page) {
            return (words[page * PAGE_WORDS] >>> 24) & 0xFFFFFFFFL;
        }

        private long wordBehindHead(int page, int k) {
            int at = page * PAGE_WORDS + k;
            long high = words[at] << 40;
            return k + 1 < PAGE_WORDS ? high | (words[at + 1] >>> 24) : high;
        }
    }

    /**
     * What can be come to from the cell along pages. Places number the tree from the root on, 4p + 1 being
     * the first one below p, so that a branch is a walk to (p - 1) / 4.
     */
    private static final class Tree {
        private static final int NODES = 21;
        private static final int PLACES = NODES + OBJECTS;

        private final Disk disk;
        private final Body body = new Body();
        private final long[] keys = new long[PLACES];
        private final int[] links = new int[PLACES];
        private final boolean[] live = new boolean[PAGES];
        private int liveCount = 0;
        private int objectCount = 0;
        private int stepsSeen = NONE;

        Tree(Disk disk) {
            this.disk = disk;
        }

        void refresh() {
            if (stepsSeen == disk.stepsDone()) {
                return;
            }
            stepsSeen = disk.stepsDone();
            forget();
            keys[0] = disk.cellKey();
            links[0] = disk.cellPage();
            for (int place = 0; place < NODES; place++) {
                if (keys[place] != 0) {
                    readNode(place);
                }
            }
            for (int place = NODES; place < PLACES; place++) {
                if (keys[place] != 0) {
                    objectCount++;
                    markData(place);
                }
            }
        }

        int liveCount() {
            return liveCount;
        }

        int freePages() {
            return PAGES - liveCount;
        }

        int objectCount() {
            return objectCount;
        }

        boolean isLive(int page) {
            return isPage(page) && live[page];
        }

        boolean hasObject(int object) {
            return isObject(object) && keys[NODES + object] != 0;
        }

        static int placeOf(int object) {
            return NODES + object;
        }

        long keyAt(int place) {
            return place < 0 || place >= PLACES ? 0 : keys[place];
        }

        int linkAt(int place) {
            return place < 0 || place >= PLACES ? 0 : links[place];
        }

        int objectSize(int object) {
            if (!hasObject(object)) {
                return NONE;
            }
            int size = 0;
            int page = links[NODES + object];
            for (int n = 0; n < PAGES && openData(NODES + object, page); n++) {
                size += body.dataLength();
                page = body.nextPage();
            }
            return size;
        }

        int objectByte(int object, int i) {
            if (!hasObject(object) || i < 0) {
                return NONE;
            }
            int rest = i;
            int page = links[NODES + object];
            for (int n = 0; n < PAGES && openData(NODES + object, page); n++) {
                if (rest < body.dataLength()) {
                    return body.dataByte(rest);
                }
                rest -= body.dataLength();
                page = body.nextPage();
            }
            return NONE;
        }

        private void forget() {
            for (int place = 0; place < PLACES; place++) {
                keys[place] = 0;
                links[place] = 0;
            }
            for (int page = 0; page < PAGES; page++) {
                live[page] = false;
            }
            liveCount = 0;
            objectCount = 0;
        }

        private void readNode(int place) {
            if (!disk.fits(keys[place], links[place], NODE)) {
                return;
            }
            mark(links[place]);
            disk.readBody(keys[place], links[place], body);
            for (int entry = 0; entry < FAN; entry++) {
                int below = place * FAN + 1 + entry;
                keys[below] = body.entryKey(entry);
                links[below] = body.entryPage(entry);
            }
        }

        private void markData(int place) {
            int page = links[place];
            for (int n = 0; n < PAGES && openData(place, page); n++) {
                mark(page);
                page = body.nextPage();
            }
        }

        private boolean openData(int place, int page) {
            if (!disk.fits(keys[place], page, DATA)) {
                return false;
            }
            disk.readBody(keys[place], page, body);
            return true;
        }

        private void mark(int page) {
            if (isPage(page) && !live[page]) {
                live[page] = true;
                liveCount++;
            }
        }
    }

    /** What can be come to from the cell's key when every page of the disk is tried, live or not. */
    private static final class Reach {
        private static final int LIMIT = 1 + PAGES * FAN;

        private final Disk disk;
        private final Body body = new Body();
        private final long[] keys = new long[LIMIT];
        private int length = 0;
        /** How many keys a page has seen, so that no key is tried on it twice; LIMIT when it has told its own. */
        private final int[] tried = new int[PAGES];
        private int stepsSeen = NONE;

        Reach(Disk disk) {
            this.disk = disk;
        }

        void refresh() {
            if (stepsSeen == disk.stepsDone()) {
                return;
            }
            stepsSeen = disk.stepsDone();
            length = 0;
            for (int page = 0; page < PAGES; page++) {
                tried[page] = 0;
            }
            learn(disk.cellKey());
            boolean learning = true;
            for (int pass = 0; pass <= PAGES && learning; pass++) {
                learning = askPages();
            }
        }

        int length() {
            return length;
        }

        long keyAt(int k) {
            return k < 0 || k >= length ? 0 : keys[k];
        }

        boolean has(long key) {
            for (int k = 0; k < length; k++) {
                if (keys[k] == key) {
                    return true;
                }
            }
            return false;
        }

        private boolean askPages() {
            boolean told = false;
            for (int page = 0; page < PAGES; page++) {
                long key = fittingKey(page);
                if (key != 0) {
                    learnEntries(key, page);
                    told = true;
                }
            }
            return told;
        }

        private long fittingKey(int page) {
            for (int k = tried[page]; k < length; k++) {
                if (disk.fits(keys[k], page, NODE)) {
                    tried[page] = LIMIT;
                    return keys[k];
                }
            }
            tried[page] = Math.max(tried[page], length);
            return 0;
        }

        private void learnEntries(long key, int page) {
            disk.readBody(key, page, body);
            for (int entry = 0; entry < FAN; entry++) {
                learn(body.entryKey(entry));
            }
        }

        private void learn(long key) {
            if (key != 0 && length < LIMIT && !has(key)) {
                keys[length] = key;
                length++;
            }
        }
    }

    /** Writes pages and branches step by step, as long as the power lasts. */
    private static final class Writer {
        private final Disk disk;
        private final Power mains;
        private final Tree tree;
        private final Body body = new Body();
        private final long[] sheet = new long[PAGE_WORDS];
        private final boolean[] taken = new boolean[PAGES];
        private int lastPage = PAGES - 1;
        private int pagesWritten = 0;

        Writer(Disk disk, Power mains, Tree tree) {
            this.disk = disk;
            this.mains = mains;
            this.tree = tree;
        }

        int pagesWritten() {
            return pagesWritten;
        }

        /** Page 0 is the one behind the last of all. */
        void startOver() {
            lastPage = PAGES - 1;
        }

        void begin() {
            for (int page = 0; page < PAGES; page++) {
                taken[page] = tree.isLive(page);
            }
        }

        /** The first page of the data; NONE when the power went. */
        int writeData(long key, Tape tape, int n) {
            int next = NO_NEXT;
            for (int part = dataPages(n) - 1; part >= 0; part--) {
                int from = part * DATA_BYTES;
                body.setData(next, tape, from, Math.min(DATA_BYTES, n - from));
                next = writePage(DATA, key);
                if (next == NONE) {
                    return NONE;
                }
            }
            return next;
        }

        /** The branch with an object's entry, which is none for a key of 0. False: the power went. */
        boolean writeBranch(int object, long objectKey, int firstPage, KeyRow row) {
            long key = objectKey;
            int page = firstPage;
            int place = Tree.placeOf(object);
            for (int level = 0; level < BRANCH; level++) {
                int node = (place - 1) / FAN;
                boolean empty = !fillNode(node, place, key, page);
                if (empty && node != 0) {
                    key = 0;
                    page = 0;
                } else {
                    key = row.take();
                    page = writePage(NODE, key);
                    if (page == NONE) {
                        return false;
                    }
                }
                place = node;
            }
            if (!mains.lastsForStep()) {
                return false;
            }
            disk.writeCell(key, page);
            return true;
        }

        /** A node as it was, but for the entry of the changed place. False: it has no entry. */
        private boolean fillNode(int node, int changed, long key, int page) {
            boolean filled = false;
            body.clear();
            for (int entry = 0; entry < FAN; entry++) {
                int below = node * FAN + 1 + entry;
                long entryKey = below == changed ? key : tree.keyAt(below);
                if (entryKey != 0) {
                    body.setEntry(entry, entryKey, below == changed ? page : tree.linkAt(below));
                    filled = true;
                }
            }
            return filled;
        }

        /** The page that was written; NONE when the power went before it was whole. */
        private int writePage(int kind, long key) {
            int page = freePage();
            if (page == NONE) {
                return NONE;
            }
            seal(kind, key, disk.nextWriting());
            for (int part = PARTS - 1; part >= 0; part--) {
                if (!mains.lastsForStep()) {
                    return NONE;
                }
                disk.writePart(page, part, sheet);
            }
            taken[page] = true;
            lastPage = page;
            pagesWritten++;
            return page;
        }

        private int freePage() {
            for (int n = 1; n <= PAGES; n++) {
                int page = (lastPage + n) % PAGES;
                if (!taken[page]) {
                    return page;
                }
            }
            return NONE;
        }

        private void seal(int kind, long key, long writing) {
            long before = padOf(key, writing, TAG_PLACE);
            sheet[0] = ((long) kind << 56) | ((writing & 0xFFFFFFFFL) << 24) | (before >>> 40);
            for (int k = 0; k < BODY_WORDS; k++) {
                long hidden = body.word(k) ^ padOf(key, writing, k);
                sheet[k + 1] = (before << 24) | (hidden >>> 40);
                before = hidden;
            }
        }
    }
}
