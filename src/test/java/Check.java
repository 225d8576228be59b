/** Counts and prints the calls whose answer is not the one that is due. */
final class Check {
    private final String name;
    private String sentence = "";
    private int calls;
    private int wrong;

    Check(String name) {
        this.name = name;
    }

    /** The sentence of DOC.md that the answers from here on are about. */
    void of(String sentence) {
        this.sentence = " [" + sentence + "]";
    }

    void due(String call, long got, long want) {
        calls++;
        if (got != want) {
            wrong++;
            System.out.println(name + sentence + ": " + call + " answered " + got + ", due is " + want);
        }
    }

    /** Types the TEXT anew. */
    void text(LateLines x, String text) {
        x.clear();
        for (int i = 0; i < text.length(); i++) {
            due("type(" + (int) text.charAt(i) + ")", x.type(text.charAt(i)), i + 1);
        }
    }

    /** All counts of often(), from HITS to TICKS. */
    void counts(String when, LateLines x, int... want) {
        for (int i = 0; i < want.length; i++) {
            due(when + ": often(" + i + ")", x.often(i), want[i]);
        }
    }

    int wrongSoFar() {
        return wrong;
    }

    void finish() {
        System.out.println(name + ": " + calls + " answers, " + wrong + " wrong");
        if (wrong != 0 || calls == 0) {
            System.exit(1);
        }
    }
}
