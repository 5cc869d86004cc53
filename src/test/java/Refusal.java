/** A call that is refused: what it answers, and that all goes on as if it had not been made. */
final class Refusal {
    /** A call with its answer, a boolean counting 1 or 0. */
    interface Call {
        long on(Subject s);
    }

    private Refusal() {
    }

    /**
     * The call is refused behind the run before, and neither what can be asked then nor what the calls after it
     * come to is other than without it.
     */
    static void due(Check check, String name, Run before, Call call, long want, Run after) {
        Subject asked = new Subject();
        before.on(asked);
        check.due(name, call.on(asked), want);
        Run with = before.then(s -> call.on(s));
        Picture.of(with).dueSame(check, "behind " + name, Picture.of(before));
        Picture.of(with.then(after)).dueSame(check, "long behind " + name, Picture.of(before.then(after)));
    }
}
