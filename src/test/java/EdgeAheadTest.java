/** The boundary cases of promises 26 to 28: how far is looked ahead, and words that none has told. */
public final class EdgeAheadTest {
    private static final Edges edges = new Edges("EdgeAheadTest");
    private static final Run NEW = Run.of();
    /** Three senders get in each other's way for 882 beats; the first lamp gets the level 9 in the beat 794. */
    private static final Run LONG = NEW.and("set(3, 3)", "sender(0, 9)", "sender(0, 9)", "sender(0, 9)",
        "lamp(0, 0, 0)", "lamp(0, 1, 0)").and(says(0, 24, 25, 26, 27, 28, 29)).and(says(1, 16, 17, 18, 19, 20, 21))
        .and(says(2, 0, 1, 2, 3, 4, 5));

    public static void main(String[] args) {
        silentNow();
        silentSoon();
        silentWithin600();
        neverSilent();
        silenceIsNotAwaited();
        lampAsked();
        beatsAhead();
        levelNow();
        levelIn400();
        levelIsNotAwaited();
        freshnessOfNothing();
        freshnessOfBadWords();
        freshnessOfAll();
        edges.end();
    }

    private static String[] says(int sender, int... words) {
        String[] calls = new String[words.length];
        for (int i = 0; i < words.length; i++) {
            calls[i] = "say(" + sender + ", " + words[i] + ")";
        }
        return calls;
    }

    private static Run passed(Run run, int beats) {
        Run longer = run.times(beats / 99, "pass(99)");
        return beats % 99 == 0 ? longer : longer.and(Edges.with("pass(#)", beats % 99));
    }

    private static void silentNow() {
        edges.sentence("Returns the number of beats, 0 to 600");
        edges.is(NEW, "silentIn()", 0);
        edges.is(Run.of("sender(0, 9)"), "silentIn()", 0);
        edges.is(Run.of("sender(0, 9)", "machine(0, 9, 2)", "pass(50)"), "silentIn()", 0);
        edges.is(Run.of("sender(0, 9)", "say(0, 0)", "pass(34)"), "silentIn()", 0);
        edges.is(Run.of("sender(0, 9)", "say(0, 0)", "pass(5)", "remove(0, 0)"), "silentIn()", 0);
        edges.is(Run.of("sender(0, 9)", "say(0, 0)", "pass(33)"), "silentIn()", 1);
    }

    private static void silentSoon() {
        edges.sentence("Tells in how many beats all queues are empty");
        edges.is(Run.of("set(3, 1)", "sender(0, 9)", "say(0, 0)"), "silentIn()", 17);
        edges.is(Run.of("sender(0, 9)", "say(0, 0)"), "silentIn()", 34);
        edges.is(Run.of("set(3, 3)", "sender(0, 9)").times(6, "say(0, 0)"), "silentIn()", 306);
        edges.is(Run.of("sender(0, 9)", "sender(1, 9)", "say(0, 0)", "say(1, 0)", "say(1, 0)"), "silentIn()", 68);
        edges.is(Run.of("sender(0, 9)", "sender(1, 9)", "say(0, 0)", "say(0, 0)", "say(1, 0)"), "silentIn()", 68);
    }

    private static void silentWithin600() {
        edges.sentence("NONE if it is not so within 600 beats.");
        edges.is(passed(LONG, 881), "count(5)", 1);
        edges.is(passed(LONG, 882), "count(5)", 0);
        edges.is(LONG, "silentIn()", Edges.NONE);
        edges.is(passed(LONG, 281), "silentIn()", Edges.NONE);
        edges.is(passed(LONG, 282), "silentIn()", 600);
        edges.is(passed(LONG, 283), "silentIn()", 599);
        edges.is(passed(LONG, 881), "silentIn()", 1);
        edges.is(passed(LONG, 882), "silentIn()", 0);
    }

    private static void neverSilent() {
        edges.sentence("NONE if it is not so");
        Run noise = Run.of("sender(0, 9)", "machine(0, 9, 2)", "say(0, 0)");
        edges.is(noise, "silentIn()", Edges.NONE);
        edges.is(passed(noise, 990), "silentIn()", Edges.NONE);
        edges.is(noise.and("run(0, false)"), "silentIn()", 34);
    }

    private static void silenceIsNotAwaited() {
        edges.sentence("silentIn: what would be; nothing is changed");
        edges.unchanged(LONG, "silentIn()");
        edges.unchanged(passed(LONG, 600), "silentIn()");
        edges.unchanged(NEW, "silentIn()");
    }

    private static void lampAsked() {
        edges.sentence("levelIn: lamp: number of a lamp");
        Run eight = NEW.times(8, "lamp(0, 0, 0)");
        edges.range(eight, "levelIn(#, 0)", 0, 7, Edges.NO_SUCH);
        edges.range(eight, "levelIn(#, 400)", 0, 7, Edges.NO_SUCH);
        edges.refused(NEW, "levelIn(0, 0)", Edges.NO_SUCH);
        edges.refused(eight.and("remove(2, 7)"), "levelIn(7, 9)", Edges.NO_SUCH);
        edges.each(passed(LONG, 793), "levelIn(#, 1)", 9, 0, Edges.NO_SUCH);
    }

    private static void beatsAhead() {
        edges.sentence("levelIn: beats: 0 to 400");
        edges.range(NEW.and("lamp(0, 0, 0)"), "levelIn(0, #)", 0, 400, Edges.BAD_VALUE);
        edges.range(LONG, "levelIn(0, #)", 0, 400, Edges.BAD_VALUE);
    }

    private static void levelNow() {
        edges.sentence("Returns its level after so many beats");
        edges.is(passed(LONG, 793), "lampOf(0, 3)", 0);
        edges.is(passed(LONG, 793), "levelIn(0, 0)", 0);
        edges.is(passed(LONG, 793), "levelIn(0, 1)", 9);
        edges.is(passed(LONG, 794), "lampOf(0, 3)", 9);
        edges.is(passed(LONG, 794), "levelIn(0, 0)", 9);
        edges.is(passed(LONG, 794), "levelIn(0, 50)", 9);
        edges.is(passed(LONG, 794), "levelIn(0, 51)", 0);
        edges.is(passed(LONG, 845), "lampOf(0, 3)", 0);
    }

    private static void levelIn400() {
        edges.sentence("after so many beats, if nothing else is done");
        edges.is(passed(LONG, 393), "levelIn(0, 400)", 0);
        edges.is(passed(LONG, 394), "levelIn(0, 399)", 0);
        edges.is(passed(LONG, 394), "levelIn(0, 400)", 9);
        edges.is(passed(LONG, 395), "levelIn(0, 399)", 9);
        edges.is(passed(LONG, 444), "levelIn(0, 400)", 9);
        edges.is(passed(LONG, 445), "levelIn(0, 400)", 0);
    }

    private static void levelIsNotAwaited() {
        edges.sentence("levelIn: what would be; nothing is changed");
        edges.unchanged(LONG, "levelIn(0, 400)");
        edges.unchanged(passed(LONG, 600), "levelIn(0, 400)");
        edges.unchanged(LONG, "levelIn(0, 0)");
    }

    private static void freshnessOfNothing() {
        edges.sentence("0.0f if this sum is 0.");
        edges.is(NEW, "freshness()", 0.0f);
        edges.is(Run.of("sender(0, 9)", "say(0, 0)", "pass(13)"), "freshness()", 0.0f);
        edges.is(Run.of("sender(0, 9)", "say(0, 0)", "pass(14)"), "freshness()", 1.0f);
        edges.is(Run.of("sender(0, 9)", "say(0, 0)", "pass(14)", "undo()"), "freshness()", 0.0f);
    }

    private static void freshnessOfBadWords() {
        edges.sentence("divided by the sum of total(2), total(3) and total(4)");
        Run bad = Run.of("sender(0, 4)", "say(0, 0)", "pass(4)", "remove(0, 0)", "pass(9)", "sender(0, 4)");
        edges.is(bad, "total(4)", 1);
        edges.is(bad, "freshness()", 0.0f);
        edges.is(bad.and("say(0, 0)", "pass(14)"), "freshness()", 0.5f);
        edges.is(bad.and("say(0, 0)", "pass(31)"), "freshness()", (float) 1 / 3);
        edges.is(bad.and("say(0, 0)", "say(0, 1)", "pass(68)"), "freshness()", (float) 2 / 5);
    }

    private static void freshnessOfAll() {
        edges.sentence("total(2), as a float");
        edges.is(Run.of("set(3, 1)", "sender(0, 4)", "say(0, 0)", "say(0, 1)", "pass(34)"), "freshness()", 1.0f);
        edges.is(Run.of("sender(0, 4)", "say(0, 0)", "pass(34)"), "freshness()", 0.5f);
        edges.is(Run.of("set(3, 3)", "sender(0, 4)", "say(0, 0)", "pass(51)"), "freshness()", (float) 1 / 3);
    }
}
