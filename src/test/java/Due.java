/** Counts the answers of one test's calls, and prints each that is not the one that is due. */
final class Due {
    private final String test;
    private int asked = 0;
    private int wrong = 0;

    Due(String test) {
        this.test = test;
    }

    void is(String call, long got, long want) {
        count(call, got == want, Long.toString(got), Long.toString(want));
    }

    void is(String call, float got, float want) {
        count(call, Float.compare(got, want) == 0, Float.toString(got), Float.toString(want));
    }

    void is(String call, String got, String want) {
        count(call, got.equals(want), got, want);
    }

    private void count(String call, boolean isDue, String got, String want) {
        asked++;
        if (!isDue) {
            wrong++;
            System.out.println(test + ": " + call + " answered " + got + ", due is " + want);
        }
    }

    void end() {
        System.out.println(test + ": " + asked + " answers, " + wrong + " not as due");
        if (wrong > 0 || asked == 0) {
            System.exit(1);
        }
    }
}
