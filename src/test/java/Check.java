/** Counts and prints the answers that are not the ones due, each under the sentence that asks for it. */
final class Check {
    private static final int PRINTED = 200;
    private String sentence = "";
    private int wrong = 0;

    /** The words of the document that the answers from here on are due by. */
    void sentence(String words) {
        sentence = words;
    }

    void due(String call, long got, long want) {
        if (got != want) {
            tell(call, String.valueOf(got), String.valueOf(want));
        }
    }

    void due(String call, String got, String want) {
        if (!got.equals(want)) {
            tell(call, got, want);
        }
    }

    private void tell(String call, String got, String want) {
        wrong++;
        if (wrong <= PRINTED) {
            System.out.println("[" + sentence + "] " + call + " answered " + got + ", due is " + want);
        }
    }

    void due(String call, boolean got, boolean want) {
        due(call, got ? 1L : 0L, want ? 1L : 0L);
    }

    boolean failed() {
        return wrong != 0;
    }

    void end() {
        System.out.println(wrong == 0 ? "all answers are as due" : wrong + " answers are not as due");
        if (wrong != 0) {
            System.exit(1);
        }
    }
}
