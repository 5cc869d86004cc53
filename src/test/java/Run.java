/** Calls on a new object, which can be made again on as many new ones as it takes to look at all of it. */
interface Run {
    void on(Subject s);

    default Run then(Run more) {
        return s -> {
            on(s);
            more.on(s);
        };
    }
}
