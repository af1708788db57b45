/** The boundary cases of words and their frames, and of what a told word does to the lamps. */
public final class EdgeWordTest {
    private static final Edges edges = new Edges("EdgeWordTest");
    /** What this sender says is heard on the wire 0 alone, and is said once. */
    private static final Run ONE = Run.of("set(3, 1)", "sender(0, 4)");

    public static void main(String[] args) {
        letterAndCode();
        unitsAndCommands();
        bitsOfTheFrame();
        atMost17BeatsAgo();
        copiesOfCopies();
        theSameWord();
        noneAtFirst();
        onlyTheTimeOfACopy();
        lampsOnThisWire();
        lampsOfThisLetter();
        openLetter();
        closedLetter();
        levels();
        allOff();
        edges.end();
    }

    /** Each word is told once, and is new, as the next one comes no sooner than 18 beats later. */
    private static Run told(Run run, int... words) {
        Run longer = run;
        for (int word : words) {
            longer = longer.and(Edges.with("say(0, #)", word), "pass(18)");
        }
        return longer;
    }

    private static void letterAndCode() {
        edges.sentence("8 times a letter (0 to 3, written as A to D), plus a code (0 to 7)");
        Run sender = Run.of("sender(0, 9)");
        Run said = sender.type("0:A0A!B0C!D0D!").and("perform()");
        edges.each(said, "queued(0, #)", 0, 7, 8, 23, 24, 31);
        Run lamps = ONE.and("lamp(0, 0, 0)", "lamp(0, 1, 0)", "lamp(0, 3, 0)");
        edges.each(told(lamps, 0), "lampOf(#, 4)", 1, 0, 0);
        edges.each(told(lamps, 8), "lampOf(#, 4)", 0, 1, 0);
        edges.each(told(lamps, 24), "lampOf(#, 4)", 0, 0, 1);
        edges.is(told(lamps, 7), "receiver(0, 4)", 14);
        edges.is(told(lamps, 15), "receiver(0, 4)", 13);
        edges.is(told(lamps, 31), "receiver(0, 4)", 7);
    }

    private static void unitsAndCommands() {
        edges.sentence("The codes 0 to 3 are units (written as 0 to 3); the other codes are ON (4, written as +), OFF "
            + "(5, written as -), UP (6, written as ^) and ALL_OFF (7, written as !).");
        Run said = Run.of("sender(0, 9)").type("0:A0A3A+A-A^A!").and("perform()");
        edges.each(said, "queued(0, #)", 0, 3, 4, 5, 6, 7);
        Run lamps = ONE.and("lamp(0, 0, 0)", "lamp(0, 0, 1)", "lamp(0, 0, 2)", "lamp(0, 0, 3)");
        edges.each(told(lamps, 0), "lampOf(#, 4)", 1, 0, 0, 0);
        edges.each(told(lamps, 3), "lampOf(#, 4)", 0, 0, 0, 1);
        for (int code = 4; code < 8; code++) {
            edges.each(told(lamps, code), "lampOf(#, 4)", 0, 0, 0, 0);
            edges.is(told(lamps, code), "receiver(0, 4)", 14);
        }
        for (int code = 0; code < 4; code++) {
            edges.is(told(lamps, code), "receiver(0, 4)", 15);
        }
        int[] levels = {9, 0, 2, 0};
        for (int code = 4; code < 8; code++) {
            edges.is(told(lamps, 1, 6, code), "lampOf(1, 3)", levels[code - 4]);
        }
    }

    private static void bitsOfTheFrame() {
        edges.sentence("The frame of a word has 14 bits: 1, 1, 1, 0; then, for each of the five bits of the word, the "
            + "highest one first, the bit and its opposite.");
        edges.each(Run.of(), "frame(0, #)", 1, 1, 1, 0, 0, 1, 0, 1, 0, 1, 0, 1, 0, 1, Edges.BAD_VALUE);
        edges.each(Run.of(), "frame(31, #)", 1, 1, 1, 0, 1, 0, 1, 0, 1, 0, 1, 0, 1, 0, Edges.BAD_VALUE);
        edges.each(Run.of(), "frame(16, #)", 1, 1, 1, 0, 1, 0, 0, 1, 0, 1, 0, 1, 0, 1, Edges.BAD_VALUE);
        edges.each(Run.of(), "frame(1, #)", 1, 1, 1, 0, 0, 1, 0, 1, 0, 1, 0, 1, 1, 0, Edges.BAD_VALUE);
        edges.each(Run.of(), "frame(10, #)", 1, 1, 1, 0, 0, 1, 1, 0, 0, 1, 1, 0, 0, 1, Edges.BAD_VALUE);
    }

    private static void atMost17BeatsAgo() {
        edges.sentence("If the receiver told the same word last, at most 17 beats ago (time less time), the word is a "
            + "copy");
        Run first = ONE.and("say(0, 9)");
        edges.is(first.and("pass(17)", "say(0, 9)"), "pass(14)", 0);
        edges.is(first.and("pass(17)", "say(0, 9)", "pass(14)"), "total(2)", 1);
        edges.is(first.and("pass(17)", "say(0, 9)", "pass(14)"), "total(3)", 1);
        edges.is(first.and("pass(18)", "say(0, 9)"), "pass(14)", 1);
        edges.is(first.and("pass(18)", "say(0, 9)", "pass(14)"), "total(2)", 2);
        edges.is(first.and("pass(18)", "say(0, 9)", "pass(14)"), "total(3)", 0);
    }

    private static void copiesOfCopies() {
        edges.sentence("only the time at which it was told last changes");
        // Told at the times 13 and 30, and then at 47 or 48.
        Run copied = ONE.and("say(0, 9)", "pass(17)", "say(0, 9)", "pass(17)");
        edges.is(copied.and("say(0, 9)"), "pass(14)", 0);
        edges.is(copied.and("say(0, 9)", "pass(14)"), "total(3)", 2);
        edges.is(copied.and("pass(1)", "say(0, 9)"), "pass(14)", 1);
        Run thrice = Run.of("set(3, 3)", "sender(0, 4)", "say(0, 9)");
        edges.is(thrice, "pass(51)", 1);
        edges.is(thrice.and("pass(51)"), "total(3)", 2);
    }

    private static void theSameWord() {
        edges.sentence("Otherwise it is a new word");
        Run first = ONE.and("say(0, 9)", "pass(17)");
        edges.is(first.and("say(0, 8)"), "pass(14)", 1);
        edges.is(first.and("say(0, 10)"), "pass(14)", 1);
        edges.is(first.and("say(0, 17)"), "pass(14)", 1);
        edges.is(first.and("say(0, 8)", "pass(17)", "say(0, 9)"), "pass(14)", 1);
    }

    private static void noneAtFirst() {
        edges.sentence("the word that it told last (none at first)");
        for (int word = 0; word < 32; word++) {
            edges.is(ONE.and(Edges.with("say(0, #)", word)), "pass(14)", 1);
        }
        edges.is(ONE.and("say(0, 0)", "pass(14)"), "total(3)", 0);
    }

    private static void onlyTheTimeOfACopy() {
        edges.sentence("the word is a copy: only the time at which it was told last changes");
        Run up = told(ONE.and("lamp(0, 0, 0)"), 0).and("say(0, 6)", "pass(17)");
        edges.is(up, "lampOf(0, 3)", 1);
        edges.is(up.and("say(0, 6)", "pass(14)"), "lampOf(0, 3)", 1);
        edges.is(up.and("say(0, 6)", "pass(13)"), "receiver(0, 3)", 17);
        edges.is(up.and("say(0, 6)", "pass(14)"), "receiver(0, 3)", 1);
        edges.is(up.and("pass(1)", "say(0, 6)", "pass(14)"), "lampOf(0, 3)", 2);
        Run unit = ONE.and("say(0, 0)", "pass(17)", "lamp(0, 0, 0)");
        edges.is(unit.and("say(0, 0)", "pass(14)"), "lampOf(0, 4)", 0);
        edges.is(unit.and("pass(1)", "say(0, 0)", "pass(14)"), "lampOf(0, 4)", 1);
    }

    private static void lampsOnThisWire() {
        edges.sentence("which acts on the lamps on this wire");
        Run lamps = Run.of("set(3, 1)", "set(0, 0)", "set(1, 9)", "sender(2, 9)", "lamp(0, 0, 0)", "lamp(2, 0, 0)",
            "lamp(3, 0, 0)", "lamp(5, 0, 0)");
        edges.each(told(lamps, 0), "lampOf(#, 4)", 1, 1, 0, 0);
        edges.each(told(lamps, 0, 4), "lampOf(#, 3)", 9, 9, 0, 0);
        edges.each(told(lamps.and("set(0, 9)"), 0), "lampOf(#, 4)", 0, 1, 0, 0);
        edges.each(told(lamps.and("set(1, 0)"), 0), "lampOf(#, 4)", 1, 1, 1, 1);
    }

    private static void lampsOfThisLetter() {
        edges.sentence("that have its letter");
        Run lamps = ONE.and("lamp(0, 0, 1)", "lamp(0, 1, 1)", "lamp(0, 2, 1)", "lamp(0, 3, 1)");
        edges.each(told(lamps, 1), "lampOf(#, 4)", 1, 0, 0, 0);
        edges.each(told(lamps, 25), "lampOf(#, 4)", 0, 0, 0, 1);
        Run selected = told(lamps, 1, 9, 17, 25);
        edges.each(told(selected, 4), "lampOf(#, 3)", 9, 0, 0, 0);
        edges.each(told(selected, 28), "lampOf(#, 3)", 0, 0, 0, 9);
        edges.each(told(selected, 4, 10), "lampOf(#, 4)", 1, 1, 1, 1);
        edges.each(told(selected, 4, 2), "lampOf(#, 4)", 0, 1, 1, 1);
    }

    private static void openLetter() {
        edges.sentence("Then those with this unit are selected.");
        Run lamps = ONE.and("lamp(0, 0, 0)", "lamp(0, 0, 3)", "lamp(0, 0, 3)");
        edges.each(told(lamps, 0), "lampOf(#, 4)", 1, 0, 0);
        edges.each(told(lamps, 3), "lampOf(#, 4)", 0, 1, 1);
        edges.each(told(lamps, 0, 3), "lampOf(#, 4)", 1, 1, 1);
        edges.each(told(lamps, 0, 1), "lampOf(#, 4)", 1, 0, 0);
        edges.is(told(lamps, 0, 3), "receiver(0, 4)", 15);
    }

    private static void closedLetter() {
        edges.sentence("if the letter is not open, all of these lamps are no longer selected, and the letter is open");
        Run lamps = ONE.and("lamp(0, 0, 0)", "lamp(0, 0, 3)");
        for (int code = 4; code < 8; code++) {
            Run closed = told(lamps, 0, code);
            edges.is(closed, "receiver(0, 4)", 14);
            edges.each(closed, "lampOf(#, 4)", 1, 0);
            edges.each(told(closed, 3), "lampOf(#, 4)", 0, 1);
            edges.each(told(closed, 1), "lampOf(#, 4)", 0, 0);
            edges.each(told(closed, 0), "lampOf(#, 4)", 1, 0);
            edges.is(told(closed, 1), "receiver(0, 4)", 15);
            edges.each(told(closed, 3, 0), "lampOf(#, 4)", 1, 1);
        }
        edges.is(told(lamps, 4, 12, 20, 28), "receiver(0, 4)", 0);
        edges.is(told(lamps, 4, 12, 20, 28, 27), "receiver(0, 4)", 8);
    }

    private static void levels() {
        edges.sentence("ON: the selected ones get the level 9. OFF: they get the level 0. UP: their level grows by 1, "
            + "up to 9.");
        Run lamps = told(ONE.and("lamp(0, 0, 0)", "lamp(0, 0, 3)"), 0);
        for (int ups = 0; ups <= 10; ups++) {
            edges.each(lamps.times(ups, "say(0, 6)", "pass(18)"), "lampOf(#, 3)", Math.min(ups, 9), 0);
        }
        edges.each(told(lamps, 4), "lampOf(#, 3)", 9, 0);
        edges.is(told(lamps, 4, 6), "lampOf(0, 3)", 9);
        edges.is(told(lamps, 4, 4), "lampOf(0, 3)", 9);
        edges.is(told(lamps, 5), "lampOf(0, 3)", 0);
        edges.is(told(lamps, 4, 5), "lampOf(0, 3)", 0);
        edges.is(told(lamps, 6, 5), "lampOf(0, 3)", 0);
        edges.is(told(lamps, 6, 4), "lampOf(0, 3)", 9);
        edges.each(told(lamps, 4, 3, 5), "lampOf(#, 3)", 9, 0);
        edges.is(told(lamps, 4), "receiver(0, 4)", 14);
    }

    private static void allOff() {
        edges.sentence("ALL_OFF: all of these lamps get the level 0 (selected ones and others; they stay selected or "
            + "not).");
        Run lit = told(ONE.and("lamp(0, 0, 0)", "lamp(0, 0, 3)", "lamp(0, 1, 0)"), 0, 4, 3, 4, 8, 12);
        edges.each(lit, "lampOf(#, 3)", 9, 9, 9);
        edges.each(lit, "lampOf(#, 4)", 0, 1, 1);
        edges.each(told(lit, 7), "lampOf(#, 3)", 0, 0, 9);
        edges.each(told(lit, 7), "lampOf(#, 4)", 0, 1, 1);
        edges.each(told(lit, 15), "lampOf(#, 3)", 9, 9, 0);
        edges.each(told(lit, 23), "lampOf(#, 3)", 9, 9, 9);
        edges.is(told(ONE, 7), "receiver(0, 4)", 14);
    }
}
