/** The boundary cases of promises 10 to 13: the text, its fault, and what is carried out. */
public final class EdgeTextTest {
    private static final Edges edges = new Edges("EdgeTextTest");
    private static final Run NEW = Run.of();
    /** 80 characters. */
    private static final String LONGEST = "t9,".repeat(26) + "t9";

    public static void main(String[] args) {
        characters();
        roomInTheText();
        lengthToClear();
        nothingIsLeft();
        digitOfASender();
        colonBehindASender();
        letterOfAWord();
        codeOfAWord();
        behindAWord();
        beatsToPass();
        betweenParts();
        faultOfAnEmptyText();
        faultAtTheFirst();
        faultAtTheEnd();
        faultAtTheRoomsEnd();
        scriptOfAnyLength();
        performsTheFault();
        performsUpToTheError();
        performsUpToAFullQueue();
        performsNothing();
        performsAll();
        theTextStays();
        oneAction();
        edges.end();
    }

    private static void faultIn(String text, int want) {
        edges.is(NEW.type(text), "fault()", want);
    }

    private static void characters() {
        edges.sentence("append: character: 32 to 126");
        edges.range(NEW, "append(#)", 32, 126, Edges.BAD_VALUE);
        edges.refused(NEW, "append(" + ('t' + 256) + ")", Edges.BAD_VALUE);
        edges.refused(NEW, "append(" + ('t' + 65536) + ")", Edges.BAD_VALUE);
        edges.refused(NEW, "append(0)", Edges.BAD_VALUE);
        edges.range(NEW.type("0:A0"), "append(#)", 32, 126, Edges.BAD_VALUE);
        edges.is(NEW, "append(32)", 1);
        edges.is(NEW.and("append(32)"), "append(126)", 2);
        edges.is(NEW.and("append(126)"), "count(12)", 1);
    }

    private static void roomInTheText() {
        edges.sentence("TOO_MANY if the text has 80 characters.");
        Run full = NEW.type(LONGEST);
        Run almost = NEW.type(LONGEST.substring(0, 79));
        edges.is(almost, "append(57)", 80);
        edges.is(full, "count(12)", 80);
        edges.refused(full, "append(57)", Edges.TOO_MANY);
        edges.refused(full, "append(44)", Edges.TOO_MANY);
        edges.is(full, "fault()", Edges.NONE);
        edges.is(full, "perform()", 27);
        edges.is(full.and("clearText()"), "append(57)", 1);
    }

    private static void lengthToClear() {
        edges.sentence("Returns the length that the text had.");
        edges.is(NEW, "clearText()", 0);
        edges.unchanged(NEW, "clearText()");
        edges.is(NEW.type("x"), "clearText()", 1);
        edges.is(NEW.type(LONGEST.substring(0, 79)), "clearText()", 79);
        edges.is(NEW.type(LONGEST), "clearText()", 80);
        edges.is(NEW.type(LONGEST).and("clearText()"), "count(12)", 0);
        edges.is(NEW.type(LONGEST).and("clearText()"), "clearText()", 0);
        edges.is(NEW.type("t5").and("clearText()"), "fault()", 0);
        edges.is(NEW.type("x").and("clearText()").type("t5"), "fault()", Edges.NONE);
    }

    private static void nothingIsLeft() {
        edges.sentence("Empties the text.");
        Run sender = Run.of("sender(0, 9)");
        edges.is(sender.type("t99").and("clearText()").type("t9").and("perform()"), "count(0)", 9);
        edges.is(sender.type("t9,t9").and("clearText()").type("t9"), "perform()", 1);
        edges.is(sender.type("0:A0A1").and("clearText()").type("0:A0"), "perform()", 1);
        edges.is(sender.type("0:A0").and("clearText()").type("0:A"), "fault()", 3);
        edges.is(NEW.type(LONGEST).and("clearText()").type(LONGEST.substring(0, 79)), "fault()", 79);
    }

    private static void digitOfASender() {
        edges.sentence("A sender is a digit from 0 to 4");
        faultIn("0:A0", Edges.NONE);
        faultIn("4:A0", Edges.NONE);
        faultIn("/:A0", 0);
        faultIn("5:A0", 0);
        faultIn("9:A0", 0);
        faultIn("00:A0", 1);
        faultIn("t1,4:A0", Edges.NONE);
        faultIn("t1,5:A0", 3);
    }

    private static void colonBehindASender() {
        edges.sentence("part = sender \":\" word { word }");
        faultIn("0", 1);
        faultIn("0:", 2);
        faultIn("09A0", 1);
        faultIn("0;A0", 1);
        faultIn("0A0", 1);
        faultIn("0::A0", 2);
    }

    private static void letterOfAWord() {
        edges.sentence("( \"A\" | \"B\" | \"C\" | \"D\" )");
        faultIn("0:A0", Edges.NONE);
        faultIn("0:D0", Edges.NONE);
        faultIn("0:@0", 2);
        faultIn("0:E0", 2);
        faultIn("0:a0", 2);
        faultIn("0:,t1", 2);
        faultIn("0:A", 3);
    }

    private static void codeOfAWord() {
        edges.sentence("( \"0\" | \"1\" | \"2\" | \"3\" | \"+\" | \"-\" | \"^\" | \"!\" )");
        String codes = "0123+-^!";
        for (char sign = 32; sign <= 126; sign++) {
            faultIn("0:A" + sign, codes.indexOf(sign) >= 0 ? Edges.NONE : 3);
        }
    }

    private static void behindAWord() {
        edges.sentence("word { word }");
        for (char sign = 32; sign <= 126; sign++) {
            boolean goesOn = "ABCD,".indexOf(sign) >= 0;
            faultIn("0:A0" + sign, goesOn ? 5 : 4);
        }
        faultIn("0:A0D!", Edges.NONE);
        faultIn("0:" + "A0".repeat(39), Edges.NONE);
    }

    private static void beatsToPass() {
        edges.sentence("beats a number from 1 to 99 without leading zeros");
        faultIn("t", 1);
        faultIn("t0", 1);
        faultIn("t/", 1);
        faultIn("t:", 1);
        faultIn("t1", Edges.NONE);
        faultIn("t9", Edges.NONE);
        faultIn("t01", 1);
        faultIn("t10", Edges.NONE);
        faultIn("t99", Edges.NONE);
        faultIn("t9/", 2);
        faultIn("t9:", 2);
        faultIn("t100", 3);
        faultIn("t990", 3);
        faultIn("s1", 0);
        faultIn("u1", 0);
        faultIn("T1", 0);
        edges.is(NEW.type("t1").and("perform()"), "count(0)", 1);
        edges.is(NEW.type("t9").and("perform()"), "count(0)", 9);
        edges.is(NEW.type("t10").and("perform()"), "count(0)", 10);
        edges.is(NEW.type("t99").and("perform()"), "count(0)", 99);
    }

    private static void betweenParts() {
        edges.sentence("script = part { \",\" part }");
        faultIn("t1,t1", Edges.NONE);
        faultIn("t10,t10", Edges.NONE);
        faultIn("0:A0,0:A0", Edges.NONE);
        faultIn(",t1", 0);
        faultIn("t1,", 3);
        faultIn("t10,", 4);
        faultIn("0:A0,", 5);
        faultIn("t1,,t1", 3);
        faultIn("t1+t1", 2);
        faultIn("t1-t1", 2);
        faultIn("t10;t1", 3);
        faultIn("t1 ,t1", 2);
        faultIn("t1, t1", 3);
        faultIn("t1t1", 2);
        faultIn("0:A0t1", 4);
    }

    private static void faultOfAnEmptyText() {
        edges.sentence("If there is no such character, but the text is not a complete script (as the empty text), the "
            + "fault is the length of the text.");
        faultIn("", 0);
        String script = "0:A0D!,t99,4:B+";
        int[] faults = {0, 1, 2, 3, -5, 5, -5, 7, 8, -5, -5, 11, 12, 13, 14, -5};
        for (int length = 0; length <= script.length(); length++) {
            faultIn(script.substring(0, length), faults[length]);
        }
    }

    private static void faultAtTheFirst() {
        edges.sentence("the index of the first character such that no script, of any length, begins with the "
            + "characters up to and including it");
        faultIn("x", 0);
        faultIn("xt5", 0);
        faultIn("x".repeat(80), 0);
        faultIn("t5xx", 2);
        faultIn("t5x,0", 2);
    }

    private static void faultAtTheEnd() {
        edges.sentence("up to and including it");
        faultIn("t5,x", 3);
        faultIn("t5x", 2);
        faultIn("0:A0,t5,0:A", 11);
        faultIn("0:A0,t5,0:A4", 11);
    }

    private static void faultAtTheRoomsEnd() {
        edges.sentence("at most 80 characters; the fault");
        faultIn(LONGEST, Edges.NONE);
        faultIn(LONGEST.substring(0, 79) + "0", 79);
        faultIn(LONGEST.substring(0, 79) + "x", 79);
        faultIn(LONGEST.substring(0, 78) + "xx", 78);
        faultIn(LONGEST.substring(0, 79), 79);
        faultIn(LONGEST.substring(0, 78), 78);
        faultIn(LONGEST.substring(0, 77), Edges.NONE);
    }

    private static void scriptOfAnyLength() {
        edges.sentence("no script, of any length");
        faultIn("t10," + "t9,".repeat(25) + "t", 80);
        faultIn("0:" + "A0".repeat(38) + "A+", Edges.NONE);
        faultIn("0:" + "A0".repeat(38) + "A,", 79);
        faultIn("0:" + "A0".repeat(38) + "+A", 78);
        faultIn("t10,t10," + "t9,".repeat(24), 80);
        faultIn("0:A0," + "t9,".repeat(25), 80);
        faultIn("0:A0," + "t9,".repeat(24) + "0:A", 80);
    }

    private static void performsTheFault() {
        edges.sentence("-100 minus the fault (an error code) if the text is not a complete script.");
        Run sender = Run.of("sender(0, 9)");
        edges.refused(sender, "perform()", -100);
        edges.refused(sender.type("x"), "perform()", -100);
        edges.refused(sender.type("0"), "perform()", -101);
        edges.refused(sender.type("0:A0,t5,5"), "perform()", -108);
        edges.refused(sender.type("t5,"), "perform()", -103);
        edges.refused(sender.type(LONGEST.substring(0, 79)), "perform()", -179);
        edges.refused(sender.type(LONGEST.substring(0, 79) + "x"), "perform()", -179);
        edges.refused(sender.type("0:A0," + "t9,".repeat(25)), "perform()", -180);
        edges.is(sender.type(LONGEST), "perform()", 27);
    }

    private static void performsUpToTheError() {
        edges.sentence("up to the first one for which the method would return an error code");
        Run sender = Run.of("sender(0, 9)", "sender(0, 9)", "remove(0, 0)");
        edges.is(sender.type("1:A0"), "perform()", 1);
        edges.is(sender.type("0:A0"), "perform()", 0);
        edges.is(sender.type("2:A0"), "perform()", 0);
        Run stops = sender.type("1:A0A1,t3,0:A0,t50,1:A2");
        edges.is(stops, "perform()", 3);
        edges.is(stops.and("perform()"), "count(0)", 3);
        edges.each(stops.and("perform()"), "queued(1, #)", 0, 1, Edges.NONE);
        edges.is(sender.type("1:A0,4:A0,t5").and("perform()"), "count(0)", 0);
    }

    private static void performsUpToAFullQueue() {
        edges.sentence("TOO_MANY if there are 6 words in the queue, in a script");
        Run sender = Run.of("sender(0, 9)");
        edges.is(sender.type("0:A0A1A2A3A+A-"), "perform()", 6);
        Run seven = sender.type("0:A0A1A2A3A+A-A^,t7");
        edges.is(seven, "perform()", 6);
        edges.each(seven.and("perform()"), "queued(0, #)", 0, 1, 2, 3, 4, 5, Edges.NONE);
        edges.is(seven.and("perform()"), "count(0)", 0);
        edges.is(sender.type("0:A0A1A2A3A+A-,t33,0:A^"), "perform()", 7);
        Run room = sender.type("0:A0A1A2A3A+A-,t34,0:A^");
        edges.is(room, "perform()", 8);
        edges.each(room.and("perform()"), "queued(0, #)", 1, 2, 3, 4, 5, 6, Edges.NONE);
    }

    private static void performsNothing() {
        edges.sentence("This is one action, even if nothing is carried out.");
        Run none = NEW.type("0:A0,t5");
        edges.is(none, "perform()", 0);
        edges.is(none.and("perform()"), "count(11)", 1);
        edges.is(none.and("perform()"), "count(0)", 0);
        edges.unchanged(none, "perform()", "undo()");
        Run full = Run.of("sender(0, 9)").times(6, "say(0, 9)").and("undo()", "undo()").type("0:A0A1A2A3");
        edges.is(full, "perform()", 2);
        edges.is(full.and("perform()"), "perform()", 0);
        edges.is(full.and("perform()", "perform()"), "count(11)", 4);
    }

    private static void performsAll() {
        edges.sentence("Returns the number of words and t that are carried out");
        edges.is(NEW.type("t1"), "perform()", 1);
        edges.is(NEW.type("t99,".repeat(19) + "t99"), "perform()", 20);
        edges.is(NEW.type("t99,".repeat(19) + "t99").and("perform()"), "count(0)", 1980);
        Run five = NEW.times(5, "sender(0, 9)").type("0:A0A1A2A3A+A-,1:B0B1B2B3B+B-,2:C0C1C2C3C+C-,3:D0D1D2D3D+D-,"
            + "4:A^A!B^B!C^C!");
        edges.is(five, "perform()", 30);
        edges.is(five.and("perform()"), "count(5)", 30);
        edges.each(five.and("perform()"), "queued(0, #)", 0, 1, 2, 3, 4, 5, Edges.NONE);
        edges.each(five.and("perform()"), "queued(3, #)", 24, 25, 26, 27, 28, 29, Edges.NONE);
        edges.each(five.and("perform()"), "queued(4, #)", 6, 7, 14, 15, 22, 23, Edges.NONE);
    }

    private static void theTextStays() {
        edges.sentence("The text does not change.");
        Run done = NEW.type("t5").and("perform()");
        edges.is(done, "count(12)", 2);
        edges.is(done, "fault()", Edges.NONE);
        edges.is(done, "perform()", 1);
        edges.is(done.and("perform()"), "count(0)", 10);
        edges.is(NEW.type(LONGEST).and("perform()"), "count(12)", 80);
        edges.refused(NEW.type(LONGEST).and("perform()"), "append(57)", Edges.TOO_MANY);
    }

    private static void oneAction() {
        edges.sentence("This is one action");
        Run script = Run.of("sender(0, 9)").type("0:A0A1,t5,t6,0:A2");
        edges.is(script.and("perform()"), "count(11)", 2);
        edges.unchanged(script, "perform()", "undo()");
        edges.unchanged(NEW.type("t5"), "perform()", "undo()");
    }
}
