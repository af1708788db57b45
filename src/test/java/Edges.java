/** Looks at the boundary cases of one sentence of the document after the other. */
final class Edges {
    static final int NO_SUCH = -1;
    static final int BAD_VALUE = -2;
    static final int TOO_MANY = -3;
    static final int NOT_POSSIBLE = -4;
    static final int NONE = -5;

    private final Due due;
    private String sentence = "";

    Edges(String test) {
        due = new Due(test);
    }

    /** The sentence, in the document's words, that the rows which follow are about. */
    void sentence(String words) {
        sentence = "\"" + words + "\": ";
    }

    void is(Run run, String call, int want) {
        due.is(sentence + call, run.answer(call), Integer.toString(want));
    }

    void is(Run run, String call, float want) {
        due.is(sentence + call, run.answer(call), Float.toString(want));
    }

    /** The answers to the calls of this pattern in which # is 0, 1 and so on. */
    void each(Run run, String pattern, int... wants) {
        for (int i = 0; i < wants.length; i++) {
            is(run, with(pattern, i), wants[i]);
        }
    }

    /** The call is answered with this code, and changes nothing. */
    void refused(Run run, String call, int code) {
        is(run, call, code);
        unchanged(run, call);
    }

    /** All is the same with these calls and without them. */
    void unchanged(Run run, String... calls) {
        due.is(sentence + "change by " + String.join(", ", calls), run.changeBy(calls), "");
    }

    /** All is the same behind both runs. */
    void same(Run run, Run other) {
        due.is(sentence + "difference", run.differenceTo(other), "");
    }

    /** The call of this pattern is refused with this code if # is below the least number or above the most one. */
    void range(Run run, String pattern, int least, int most, int code) {
        taken(run, with(pattern, least));
        taken(run, with(pattern, most));
        refused(run, with(pattern, least - 1), code);
        refused(run, with(pattern, most + 1), code);
        refused(run, with(pattern, Integer.MIN_VALUE), code);
        refused(run, with(pattern, Integer.MAX_VALUE), code);
    }

    private void taken(Run run, String call) {
        String answer = run.answer(call);
        due.is(sentence + call, Run.isRefusal(answer) ? "refused: " + answer : "taken", "taken");
    }

    static String with(String pattern, int number) {
        return pattern.replace("#", Integer.toString(number));
    }

    void end() {
        due.end();
    }
}
