/** The boundary cases of a beat, up to what is heard: how senders begin, send, are disturbed, and end. */
public final class EdgeBeatTest {
    private static final Edges edges = new Edges("EdgeBeatTest");
    private static final int PLACE = 3;
    private static final int COPY = 4;
    private static final int PAUSE = 5;
    private static final int BIT = 6;

    public static void main(String[] args) {
        emptyQueue();
        pauseAboveZero();
        pauseOfZero();
        receiverThatReads();
        latestFourBits();
        allLookBeforeAnySends();
        placesOfTheFrame();
        noiseByTheTime();
        standingMachine();
        strengthAtLeastSense();
        sensedAtTheEnds();
        strengthsAreNotAdded();
        disturbedUpToThePlace13();
        disturbedOnlyBySendingZero();
        disturbedOnlyOnItsWire();
        lengthOfThePause();
        behindThePlace16();
        lastCopy();
        copiesOrMore();
        timeGrows();
        edges.end();
    }

    private static void sends(Run run, int what, int want) {
        edges.is(run, Edges.with("senderOf(0, #)", what), want);
    }

    private static void rests(Run run) {
        sends(run, PLACE, Edges.NONE);
        sends(run, COPY, Edges.NONE);
        sends(run, BIT, Edges.NONE);
    }

    private static void emptyQueue() {
        edges.sentence("Each sender that rests, has a word in its queue");
        Run sender = Run.of("sender(0, 9)");
        rests(sender.and("pass(1)"));
        rests(sender.and("pass(99)"));
        sends(sender.and("say(0, 0)", "pass(1)"), PLACE, 1);
        sends(sender.and("say(0, 0)", "pass(1)"), COPY, 0);
    }

    private static void pauseAboveZero() {
        edges.sentence("Each sender that rests and has a pause above 0 has one beat less of it (if that is 0 then, it "
            + "can begin in the next beat).");
        // Disturbed in the beat of the time 20, in its place 3; its receiver listens to silence from the time 24 on.
        Run before = Run.of("sender(1, 9)", "sender(0, 9)", "pass(17)", "machine(0, 9, 20)", "say(1, 0)", "pass(3)");
        edges.is(before, "senderOf(1, 3)", 3);
        int[] pauses = {5, 4, 3, 2, 1, 0};
        for (int beats = 0; beats < pauses.length; beats++) {
            Run waits = before.times(beats + 1, "pass(1)");
            edges.is(waits, "senderOf(1, 5)", pauses[beats]);
            edges.is(waits, "senderOf(1, 3)", Edges.NONE);
        }
        edges.is(before.times(4, "pass(1)"), "receiver(0, 1)", 0);
        edges.is(before.times(5, "pass(1)"), "receiver(0, 1)", 0);
        edges.is(before.times(7, "pass(1)"), "senderOf(1, 3)", 1);
        edges.is(before.times(7, "pass(1)"), "senderOf(1, 4)", 0);
    }

    private static void pauseOfZero() {
        edges.sentence("a pause above 0 has one beat less of it");
        Run sender = Run.of("sender(0, 9)");
        sends(sender.and("pass(1)"), PAUSE, 0);
        sends(sender.and("pass(99)"), PAUSE, 0);
        sends(sender.and("say(0, 0)", "pass(34)"), PAUSE, 0);
    }

    private static void receiverThatReads() {
        edges.sentence("if the receiver on its wire listens");
        Run reads = Run.of("sender(0, 9)", "sender(3, 9)", "say(1, 0)", "pass(4)", "say(0, 1)");
        edges.is(reads, "receiver(0, 0)", 0);
        rests(reads.and("pass(1)"));
        edges.is(reads.and("pass(9)"), "receiver(0, 0)", 9);
        rests(reads.and("pass(9)"));
        edges.is(reads.and("pass(10)"), "receiver(0, 1)", 0);
        rests(reads.and("pass(10)"));
        sends(reads.and("pass(11)"), PLACE, 1);
    }

    private static void latestFourBits() {
        edges.sentence("and the latest four bits that this has heard are 0");
        Run noise = Run.of("sender(0, 9)", "machine(0, 9, 20)", "pass(1)", "say(0, 0)");
        int[] latest = {1, 2, 4, 8, 0};
        for (int beats = 0; beats < latest.length; beats++) {
            Run waits = noise.times(beats, "pass(1)");
            edges.is(waits, "receiver(0, 1)", latest[beats]);
            rests(waits);
        }
        sends(noise.times(5, "pass(1)"), PLACE, 1);
    }

    private static void allLookBeforeAnySends() {
        edges.sentence("(All senders look at this before any one sends.)");
        Run five = Run.of().times(5, "sender(0, 9)").and("say(0, 7)", "say(1, 7)", "say(2, 7)", "say(3, 7)",
            "say(4, 7)");
        edges.is(five, "count(4)", 0);
        edges.is(five.and("pass(1)"), "count(4)", 5);
        Run late = Run.of("sender(0, 9)", "sender(0, 9)", "say(1, 7)", "pass(1)", "say(0, 7)");
        edges.is(late.and("pass(1)"), "count(4)", 1);
    }

    private static void placesOfTheFrame() {
        edges.sentence("in the places 0 to 13 the bit of the frame of the first word of its queue with this index, in "
            + "the places 14 to 16 a 0");
        // The last bit of the frame of an even word is 1, that of an odd one is 0.
        Run even = Run.of("sender(0, 9)", "say(0, 30)", "say(0, 1)");
        sends(even.and("pass(13)"), BIT, 1);
        sends(even.and("pass(14)"), BIT, 0);
        sends(even.and("pass(15)"), BIT, 0);
        sends(even.and("pass(16)"), BIT, 0);
        sends(even.and("pass(17)"), BIT, 1);
        sends(Run.of("sender(0, 9)", "say(0, 31)", "pass(13)"), BIT, 0);
        edges.is(even.and("pass(14)"), "receiver(0, 2)", 30);
        edges.is(even.and("pass(17)"), "receiver(0, 1)", 0);
        edges.is(even.and("pass(18)"), "receiver(0, 1)", 1);
        sends(even.and("pass(4)"), BIT, 1);
        sends(even.and("pass(34)", "pass(4)"), BIT, 0);
    }

    private static void noiseByTheTime() {
        edges.sentence("Each machine that runs makes noise if the time modulo its period is 0.");
        Run longest = Run.of("machine(0, 4, 20)");
        edges.is(longest.and("pass(1)"), "receiver(0, 1)", 1);
        edges.is(longest.and("pass(20)"), "receiver(0, 1)", 0);
        edges.is(longest.and("pass(21)"), "receiver(0, 1)", 1);
        edges.is(longest.and("pass(22)"), "receiver(0, 1)", 2);
        edges.is(longest.and("pass(40)"), "receiver(0, 1)", 0);
        edges.is(longest.and("pass(41)"), "receiver(0, 1)", 1);
        Run shortest = Run.of("machine(0, 4, 2)");
        int[] latest = {0, 1, 2, 5, 10, 5, 10};
        for (int beats = 0; beats < latest.length; beats++) {
            edges.is(shortest.times(beats, "pass(1)"), "receiver(0, 1)", latest[beats]);
        }
        Run late = Run.of("pass(1)", "machine(0, 4, 3)");
        edges.is(late.and("pass(2)"), "receiver(0, 1)", 0);
        edges.is(late.and("pass(3)"), "receiver(0, 1)", 1);
    }

    private static void standingMachine() {
        edges.sentence("Each machine that runs makes noise");
        edges.is(Run.of("machine(0, 4, 2)", "run(0, false)", "pass(3)"), "receiver(0, 1)", 0);
        edges.is(Run.of("machine(0, 4, 2)", "run(0, false)", "pass(2)", "run(0, true)", "pass(1)"), "receiver(0, 1)", 1);
        edges.is(Run.of("machine(0, 4, 2)", "pass(2)", "run(0, false)", "pass(1)"), "receiver(0, 1)", 4);
    }

    private static void strengthAtLeastSense() {
        edges.sentence("has a strength that is, less the loss, at least SENSE; otherwise a 0 is heard");
        // From the wire 4, by CROSS 1 and DOOR 2, to each wire.
        int[] losses = {3, 2, 3, 1, 0, 1};
        for (int wire = 0; wire < 6; wire++) {
            String query = Edges.with("receiver(#, 1)", wire);
            Run set = Run.of("set(0, 1)", "set(1, 2)");
            int enough = 4 + losses[wire];
            edges.is(set.and(Edges.with("machine(4, #, 20)", enough), "pass(1)"), query, 1);
            edges.is(set.and(Edges.with("machine(4, #, 20)", enough - 1), "pass(1)"), query, 0);
            edges.is(set.and(Edges.with("sender(4, #)", enough), "say(0, 0)", "pass(1)"), query, 1);
            edges.is(set.and(Edges.with("sender(4, #)", enough - 1), "say(0, 0)", "pass(1)"), query, 0);
        }
    }

    private static void sensedAtTheEnds() {
        edges.sentence("strength, less the loss, at least SENSE, at the ends of the ranges");
        edges.is(Run.of("set(2, 9)", "machine(0, 9, 2)", "pass(1)"), "receiver(0, 1)", 1);
        edges.is(Run.of("set(2, 9)", "machine(0, 8, 2)", "pass(1)"), "receiver(0, 1)", 0);
        edges.is(Run.of("set(2, 1)", "machine(0, 1, 2)", "pass(1)"), "receiver(0, 1)", 1);
        edges.is(Run.of("set(2, 2)", "machine(0, 1, 2)", "pass(1)"), "receiver(0, 1)", 0);
        Run least = Run.of("set(2, 1)", "machine(0, 9, 2)");
        edges.is(least.and("set(0, 8)", "pass(1)"), "receiver(1, 1)", 1);
        edges.is(least.and("set(0, 9)", "pass(1)"), "receiver(1, 1)", 0);
        edges.is(least.and("set(1, 8)", "pass(1)"), "receiver(3, 1)", 1);
        edges.is(least.and("set(1, 9)", "pass(1)"), "receiver(3, 1)", 0);
        edges.is(least.and("set(0, 9)", "set(1, 9)", "pass(1)"), "receiver(5, 1)", 0);
        Run none = Run.of("set(2, 9)", "set(0, 0)", "set(1, 0)", "machine(0, 9, 2)", "pass(1)");
        edges.each(none, "receiver(#, 1)", 1, 1, 1, 1, 1, 1);
    }

    private static void strengthsAreNotAdded() {
        edges.sentence("if some sender that sends a 1, or some machine that makes noise, has a strength");
        edges.is(Run.of("machine(0, 3, 2)", "machine(0, 3, 2)", "pass(1)"), "receiver(0, 1)", 0);
        edges.is(Run.of("machine(0, 3, 2)", "sender(0, 3)", "say(0, 0)", "pass(1)"), "receiver(0, 1)", 0);
        edges.is(Run.of("machine(0, 3, 2)", "machine(0, 4, 2)", "pass(1)"), "receiver(0, 1)", 1);
        edges.is(Run.of("machine(0, 4, 2)", "machine(0, 3, 2)", "pass(1)"), "receiver(0, 1)", 1);
    }

    private static void disturbedUpToThePlace13() {
        edges.sentence("is in one of the places 0 to 13, sends a 0 and has a 1 on its wire, is disturbed");
        Run odd = Run.of("sender(0, 9)", "say(0, 1)");
        Run first = odd.and("machine(0, 9, 3)");
        edges.is(first.and("pass(3)"), "total(1)", 0);
        edges.is(first.and("pass(4)"), "total(1)", 1);
        rests(first.and("pass(4)"));
        Run last = odd.and("machine(0, 9, 13)");
        edges.is(last.and("pass(13)"), "total(1)", 0);
        edges.is(last.and("pass(14)"), "total(1)", 1);
        rests(last.and("pass(14)"));
        for (int place = 14; place <= 16; place++) {
            Run silent = odd.and(Edges.with("machine(0, 9, #)", place), Edges.with("pass(#)", place + 1));
            edges.is(silent, "receiver(0, 1)", 1);
            edges.is(silent, "total(1)", 0);
            sends(silent, PLACE, (place + 1) % 17);
        }
    }

    private static void disturbedOnlyBySendingZero() {
        edges.sentence("sends a 0 and has a 1 on its wire");
        // In the place 12 the lowest bit of the word is sent, in the place 4 its highest one.
        edges.is(Run.of("sender(0, 9)", "say(0, 30)", "machine(0, 9, 12)", "pass(13)"), "total(1)", 1);
        edges.is(Run.of("sender(0, 9)", "say(0, 31)", "machine(0, 9, 12)", "pass(13)"), "total(1)", 0);
        edges.is(Run.of("sender(0, 9)", "say(0, 15)", "machine(0, 9, 4)", "pass(5)"), "total(1)", 1);
        edges.is(Run.of("sender(0, 9)", "say(0, 16)", "machine(0, 9, 4)", "pass(5)"), "total(1)", 0);
        edges.is(Run.of("sender(0, 9)", "say(0, 0)", "machine(0, 9, 2)", "pass(3)"), "total(1)", 0);
        Run equal = Run.of("sender(0, 9)", "sender(0, 9)", "say(0, 21)", "say(1, 21)", "pass(34)");
        edges.is(equal, "total(1)", 0);
        edges.is(equal, "total(0)", 2);
    }

    private static void disturbedOnlyOnItsWire() {
        edges.sentence("and has a 1 on its wire");
        Run far = Run.of("sender(0, 9)", "say(0, 0)", "machine(1, 9, 3)");
        edges.is(far.and("pass(4)"), "total(1)", 0);
        edges.is(far.and("set(0, 5)", "pass(4)"), "total(1)", 1);
        edges.is(Run.of("sender(0, 3)", "say(0, 0)", "machine(0, 3, 3)", "pass(4)"), "total(1)", 0);
        edges.is(Run.of("sender(0, 3)", "say(0, 0)", "machine(0, 4, 3)", "pass(4)"), "total(1)", 1);
    }

    private static void lengthOfThePause() {
        edges.sentence("it rests, with a pause of 3 plus 2 times its number; the word stays in its queue");
        int[] pauses = {3, 5, 7, 9, 11};
        for (int number = 0; number < 5; number++) {
            Run disturbed = Run.of().times(5, "sender(0, 9)").and(Edges.with("say(#, 6)", number), "machine(0, 9, 3)");
            edges.is(disturbed.and("pass(3)"), Edges.with("senderOf(#, 5)", number), 0);
            Run rests = disturbed.and("pass(4)");
            edges.is(rests, Edges.with("senderOf(#, 5)", number), pauses[number]);
            edges.is(rests, Edges.with("senderOf(#, 3)", number), Edges.NONE);
            edges.is(rests, Edges.with("senderOf(#, 2)", number), 1);
            edges.is(rests, Edges.with("queued(#, 0)", number), 6);
            edges.is(rests, "total(0)", 0);
        }
    }

    private static void behindThePlace16() {
        edges.sentence("Each other sender that speaks goes to the next place; behind the place 16 its copy becomes the "
            + "next one, in the place 0.");
        Run thrice = Run.of("set(3, 3)", "sender(0, 9)", "say(0, 0)");
        for (int beats = 1; beats <= 50; beats++) {
            Run speaks = thrice.and(Edges.with("pass(#)", beats));
            sends(speaks, PLACE, beats % 17);
            sends(speaks, COPY, beats / 17);
        }
    }

    private static void lastCopy() {
        edges.sentence("When it has spoken COPIES copies (or more) so, its word is removed from its queue, and it rests.");
        for (int copies = 1; copies <= 3; copies++) {
            Run said = Run.of(Edges.with("set(3, #)", copies), "sender(0, 9)", "say(0, 0)", "say(0, 9)");
            Run last = said.and(Edges.with("pass(#)", 17 * copies - 1));
            sends(last, PLACE, 16);
            sends(last, COPY, copies - 1);
            sends(last, 2, 2);
            edges.is(last, "total(0)", 0);
            Run ended = last.and("pass(1)");
            rests(ended);
            sends(ended, 2, 1);
            edges.is(ended, "queued(0, 0)", 9);
            edges.is(ended, "total(0)", 1);
            sends(ended, PAUSE, 0);
            sends(ended.and("pass(1)"), PLACE, 1);
            sends(ended.and("pass(1)"), COPY, 0);
        }
    }

    private static void copiesOrMore() {
        edges.sentence("(or more)");
        Run thrice = Run.of("set(3, 3)", "sender(0, 9)", "say(0, 0)");
        for (int copies = 1; copies <= 2; copies++) {
            String less = Edges.with("set(3, #)", copies);
            Run second = thrice.and("pass(33)", less, "pass(1)");
            rests(second);
            edges.is(second, "total(0)", 1);
            Run third = thrice.and("pass(50)", less, "pass(1)");
            rests(third);
            edges.is(third, "total(0)", 1);
        }
        Run raised = Run.of("set(3, 1)", "sender(0, 9)", "say(0, 0)", "pass(16)", "set(3, 2)", "pass(1)");
        sends(raised, PLACE, 0);
        sends(raised, COPY, 1);
        edges.is(raised, "total(0)", 0);
        edges.is(raised.and("pass(16)"), "total(0)", 0);
        edges.is(raised.and("pass(17)"), "total(0)", 1);
    }

    private static void timeGrows() {
        edges.sentence("The time grows by 1.");
        edges.is(Run.of(), "count(0)", 0);
        edges.is(Run.of("pass(1)"), "count(0)", 1);
        edges.is(Run.of("pass(99)", "pass(1)"), "count(0)", 100);
        edges.is(Run.of("pass(1)", "undo()"), "count(0)", 0);
    }
}
