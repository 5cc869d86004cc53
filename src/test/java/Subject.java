/** A ShredStore whose calls are counted: what it answers behind the 512th is free, so no test may ask that. */
final class Subject {
    static final int CALLS = 512;

    private final ShredStore store = new ShredStore();
    private int calls = 0;

    int callsLeft() {
        return CALLS - calls;
    }

    private ShredStore counted() {
        if (calls == CALLS) {
            throw new IllegalStateException("a test calls one object more than " + CALLS + " times");
        }
        calls++;
        return store;
    }

    boolean supply(long key) {
        return counted().supply(key);
    }

    int feed(int v) {
        return counted().feed(v);
    }

    int put(int object, int n) {
        return counted().put(object, n);
    }

    int shred(int object) {
        return counted().shred(object);
    }

    int size(int object) {
        return counted().size(object);
    }

    int at(int object, int i) {
        return counted().at(object, i);
    }

    boolean cut() {
        return counted().cut();
    }

    boolean arm(int n) {
        return counted().arm(n);
    }

    boolean power() {
        return counted().power();
    }

    int disk(int i) {
        return counted().disk(i);
    }

    long cell(int what) {
        return counted().cell(what);
    }

    boolean known(long key) {
        return counted().known(key);
    }

    long knownAt(int k) {
        return counted().knownAt(k);
    }

    boolean live(int page) {
        return counted().live(page);
    }

    int count(int what) {
        return counted().count(what);
    }
}
