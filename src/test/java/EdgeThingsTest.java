/** The boundary cases of promises 1 to 9, and of the terms that tell of wires, senders, machines and lamps. */
public final class EdgeThingsTest {
    private static final Edges edges = new Edges("EdgeThingsTest");
    private static final Run NEW = Run.of();
    private static final Run FOUR_SENDERS = NEW.times(4, "sender(1, 5)");
    private static final Run FIVE_SENDERS = FOUR_SENDERS.and("sender(1, 5)");
    private static final Run THREE_MACHINES = NEW.times(3, "machine(2, 5, 7)");
    private static final Run FOUR_MACHINES = THREE_MACHINES.and("machine(2, 5, 7)");
    private static final Run SEVEN_LAMPS = NEW.times(7, "lamp(4, 1, 2)");
    private static final Run EIGHT_LAMPS = SEVEN_LAMPS.and("lamp(4, 1, 2)");

    public static void main(String[] args) {
        newObject();
        sixWires();
        housesAndPhases();
        wireOfASender();
        strengthOfASender();
        roomForSenders();
        numberOfASender();
        aNewSender();
        wireOfAMachine();
        strengthOfAMachine();
        periodOfAMachine();
        roomForMachines();
        numberOfAMachine();
        aNewMachine();
        wireOfALamp();
        letterOfALamp();
        unitOfALamp();
        roomForLamps();
        numberOfALamp();
        aNewLamp();
        kindToRemove();
        numberToRemove();
        nothingToRemove();
        senderToSay();
        wordToSay();
        roomInAQueue();
        endOfAQueue();
        machineToRun();
        ranBefore();
        noSuchSetting();
        cross();
        door();
        sense();
        copies();
        beatsToPass();
        newWordsOfAllReceivers();
        edges.end();
    }

    private static void newObject() {
        edges.sentence("Creates wires without senders, machines and lamps, at the time 0, with an empty text and an "
            + "empty history, without a snapshot.");
        edges.each(NEW, "count(#)", 0, 0, 0, 0, 0, 0, 0, 6, 5, 4, 2, 0, 0);
        edges.each(NEW, "total(#)", 0, 0, 0, 0, 0);
        edges.each(NEW, "senderOf(#, 0)", -1, -1, -1, -1, -1);
        edges.each(NEW, "machineOf(#, 0)", -1, -1, -1, -1);
        edges.each(NEW, "lampOf(#, 0)", -1, -1, -1, -1, -1, -1, -1, -1);
        edges.is(NEW, "clearText()", 0);
        edges.is(NEW, "undo()", Edges.NONE);
        edges.refused(NEW, "restore()", Edges.NOT_POSSIBLE);
    }

    private static void sixWires() {
        edges.sentence("There are 6 wires, 0 to 5");
        edges.each(NEW, "receiver(#, 1)", 0, 0, 0, 0, 0, 0, Edges.NO_SUCH);
        edges.each(NEW, "loss(#, #)", 0, 0, 0, 0, 0, 0, Edges.NO_SUCH);
        edges.each(NEW, "sender(#, 1)", 0, 0, 0, 0, 0, 0, Edges.NO_SUCH);
    }

    private static void housesAndPhases() {
        edges.sentence("the wire w belongs to the house w / 3 (rounded down) and to the phase w modulo 3");
        Run told = Run.of("set(0, 2)", "set(1, 7)");
        edges.each(told, "loss(0, #)", 0, 2, 2, 7, 9, 9);
        edges.each(told, "loss(2, #)", 2, 2, 0, 9, 9, 7);
        edges.each(told, "loss(3, #)", 7, 9, 9, 0, 2, 2);
        edges.each(told, "loss(5, #)", 9, 9, 7, 2, 2, 0);
    }

    private static void wireOfASender() {
        edges.sentence("sender: wire: 0 to 5");
        edges.range(NEW, "sender(#, 5)", 0, 5, Edges.NO_SUCH);
        edges.is(Run.of("sender(0, 5)"), "senderOf(0, 0)", 0);
        edges.is(Run.of("sender(5, 5)"), "senderOf(0, 0)", 5);
    }

    private static void strengthOfASender() {
        edges.sentence("sender: strength: 1 to 9");
        edges.range(NEW, "sender(0, #)", 1, 9, Edges.BAD_VALUE);
        edges.is(Run.of("sender(0, 1)"), "senderOf(0, 1)", 1);
        edges.is(Run.of("sender(0, 9)"), "senderOf(0, 1)", 9);
    }

    private static void roomForSenders() {
        edges.sentence("TOO_MANY if there are 5 senders.");
        edges.is(FOUR_SENDERS, "sender(0, 9)", 4);
        edges.is(FIVE_SENDERS, "count(1)", 5);
        edges.refused(FIVE_SENDERS, "sender(0, 9)", Edges.TOO_MANY);
        edges.is(FIVE_SENDERS.and("remove(0, 2)"), "sender(0, 9)", 2);
        edges.refused(FIVE_SENDERS.and("remove(0, 2)", "sender(0, 9)"), "sender(0, 9)", Edges.TOO_MANY);
    }

    private static void numberOfASender() {
        edges.sentence("the number of a new one is the least number from 0 to 4 that no sender has");
        for (int number = 0; number < 5; number++) {
            edges.is(NEW.times(number, "sender(0, 9)"), "sender(0, 9)", number);
        }
        Run ends = FIVE_SENDERS.and("remove(0, 4)", "remove(0, 0)");
        edges.is(ends, "sender(0, 9)", 0);
        edges.is(ends.and("sender(0, 9)"), "sender(0, 9)", 4);
        edges.is(ends.and("sender(0, 9)", "remove(0, 3)"), "sender(0, 9)", 3);
        edges.is(Run.of("sender(0, 9)", "remove(0, 0)"), "sender(0, 9)", 0);
    }

    private static void aNewSender() {
        edges.sentence("It rests (at first), or it speaks: it has a copy (from 0) and a place (0 to 16) then. It has "
            + "a pause (a number of beats, 0 at first).");
        int[] atFirst = {3, 2, 0, Edges.NONE, Edges.NONE, 0, Edges.NONE};
        edges.each(Run.of("sender(3, 2)"), "senderOf(0, #)", atFirst);
        Run spoke = Run.of("sender(0, 9)", "say(0, 5)", "say(0, 6)", "pass(20)");
        edges.is(spoke, "senderOf(0, 4)", 1);
        edges.each(spoke.and("remove(0, 0)", "sender(3, 2)"), "senderOf(0, #)", atFirst);
        edges.is(spoke.and("remove(0, 0)", "sender(3, 2)"), "queued(0, 0)", Edges.NONE);
        Run waits = Run.of("sender(0, 9)", "machine(0, 9, 3)", "say(0, 5)", "pass(4)");
        edges.is(waits, "senderOf(0, 5)", 3);
        edges.each(waits.and("remove(0, 0)", "sender(3, 2)"), "senderOf(0, #)", atFirst);
    }

    private static void wireOfAMachine() {
        edges.sentence("machine: wire: 0 to 5");
        edges.range(NEW, "machine(#, 5, 7)", 0, 5, Edges.NO_SUCH);
        edges.is(Run.of("machine(0, 5, 7)"), "machineOf(0, 0)", 0);
        edges.is(Run.of("machine(5, 5, 7)"), "machineOf(0, 0)", 5);
    }

    private static void strengthOfAMachine() {
        edges.sentence("machine: strength: 1 to 9");
        edges.range(NEW, "machine(0, #, 7)", 1, 9, Edges.BAD_VALUE);
        edges.is(Run.of("machine(0, 1, 7)"), "machineOf(0, 1)", 1);
        edges.is(Run.of("machine(0, 9, 7)"), "machineOf(0, 1)", 9);
    }

    private static void periodOfAMachine() {
        edges.sentence("machine: period: 2 to 20");
        edges.range(NEW, "machine(0, 5, #)", 2, 20, Edges.BAD_VALUE);
        edges.refused(NEW, "machine(0, 5, 0)", Edges.BAD_VALUE);
        edges.is(Run.of("machine(0, 5, 2)"), "machineOf(0, 2)", 2);
        edges.is(Run.of("machine(0, 5, 20)"), "machineOf(0, 2)", 20);
    }

    private static void roomForMachines() {
        edges.sentence("TOO_MANY if there are 4 machines.");
        edges.is(THREE_MACHINES, "machine(0, 9, 2)", 3);
        edges.is(FOUR_MACHINES, "count(2)", 4);
        edges.refused(FOUR_MACHINES, "machine(0, 9, 2)", Edges.TOO_MANY);
        edges.is(FOUR_MACHINES.and("remove(1, 1)"), "machine(0, 9, 2)", 1);
        edges.refused(FOUR_MACHINES.and("remove(1, 1)", "machine(0, 9, 2)"), "machine(0, 9, 2)", Edges.TOO_MANY);
        edges.refused(FOUR_MACHINES.and("run(0, false)"), "machine(0, 9, 2)", Edges.TOO_MANY);
    }

    private static void numberOfAMachine() {
        edges.sentence("the number of a new one is the least number from 0 to 3 that no machine has");
        for (int number = 0; number < 4; number++) {
            edges.is(NEW.times(number, "machine(0, 9, 2)"), "machine(0, 9, 2)", number);
        }
        Run ends = FOUR_MACHINES.and("remove(1, 3)", "remove(1, 0)");
        edges.is(ends, "machine(0, 9, 2)", 0);
        edges.is(ends.and("machine(0, 9, 2)"), "machine(0, 9, 2)", 3);
        edges.is(ends.and("machine(0, 9, 2)", "remove(1, 2)"), "machine(0, 9, 2)", 2);
    }

    private static void aNewMachine() {
        edges.sentence("runs or stands (it runs at first)");
        edges.each(Run.of("machine(3, 2, 6)"), "machineOf(0, #)", 3, 2, 6, 1);
        Run stood = Run.of("machine(0, 9, 5)", "run(0, false)", "remove(1, 0)");
        edges.each(stood.and("machine(3, 2, 6)"), "machineOf(0, #)", 3, 2, 6, 1);
    }

    private static void wireOfALamp() {
        edges.sentence("lamp: wire: 0 to 5");
        edges.range(NEW, "lamp(#, 1, 2)", 0, 5, Edges.NO_SUCH);
        edges.is(Run.of("lamp(0, 1, 2)"), "lampOf(0, 0)", 0);
        edges.is(Run.of("lamp(5, 1, 2)"), "lampOf(0, 0)", 5);
    }

    private static void letterOfALamp() {
        edges.sentence("lamp: letter: 0 to 3");
        edges.range(NEW, "lamp(5, #, 2)", 0, 3, Edges.BAD_VALUE);
        edges.is(Run.of("lamp(5, 0, 2)"), "lampOf(0, 1)", 0);
        edges.is(Run.of("lamp(5, 3, 2)"), "lampOf(0, 1)", 3);
    }

    private static void unitOfALamp() {
        edges.sentence("lamp: unit: 0 to 3");
        edges.range(NEW, "lamp(5, 1, #)", 0, 3, Edges.BAD_VALUE);
        edges.is(Run.of("lamp(5, 1, 0)"), "lampOf(0, 2)", 0);
        edges.is(Run.of("lamp(5, 1, 3)"), "lampOf(0, 2)", 3);
    }

    private static void roomForLamps() {
        edges.sentence("TOO_MANY if there are 8 lamps.");
        edges.is(SEVEN_LAMPS, "lamp(0, 0, 0)", 7);
        edges.is(EIGHT_LAMPS, "count(3)", 8);
        edges.refused(EIGHT_LAMPS, "lamp(0, 0, 0)", Edges.TOO_MANY);
        edges.is(EIGHT_LAMPS.and("remove(2, 6)"), "lamp(0, 0, 0)", 6);
        edges.refused(EIGHT_LAMPS.and("remove(2, 6)", "lamp(0, 0, 0)"), "lamp(0, 0, 0)", Edges.TOO_MANY);
    }

    private static void numberOfALamp() {
        edges.sentence("the number of a new one is the least number from 0 to 7 that no lamp has");
        for (int number = 0; number < 8; number++) {
            edges.is(NEW.times(number, "lamp(0, 0, 0)"), "lamp(0, 0, 0)", number);
        }
        Run ends = EIGHT_LAMPS.and("remove(2, 7)", "remove(2, 0)");
        edges.is(ends, "lamp(0, 0, 0)", 0);
        edges.is(ends.and("lamp(0, 0, 0)"), "lamp(0, 0, 0)", 7);
        edges.is(ends.and("lamp(0, 0, 0)", "remove(2, 3)"), "lamp(0, 0, 0)", 3);
    }

    private static void aNewLamp() {
        edges.sentence("a level from 0 to 9 (0 at first), and is selected or not (it is not at first)");
        edges.each(Run.of("lamp(3, 2, 1)"), "lampOf(0, #)", 3, 2, 1, 0, 0);
        Run lit = Run.of("sender(0, 9)", "lamp(0, 0, 0)", "say(0, 0)", "say(0, 4)", "pass(68)");
        edges.each(lit, "lampOf(0, #)", 0, 0, 0, 9, 1);
        edges.each(lit.and("remove(2, 0)", "lamp(3, 2, 1)"), "lampOf(0, #)", 3, 2, 1, 0, 0);
    }

    private static void kindToRemove() {
        edges.sentence("kind: SENDER, MACHINE or LAMP");
        Run all = Run.of("sender(3, 9)", "machine(4, 9, 20)", "lamp(5, 0, 0)");
        edges.range(all, "remove(#, 0)", 0, 2, Edges.BAD_VALUE);
        edges.each(all, "remove(#, 0)", 3, 4, 5);
        edges.is(all.and("remove(0, 0)"), "count(1)", 0);
        edges.is(all.and("remove(1, 0)"), "count(2)", 0);
        edges.is(all.and("remove(2, 0)"), "count(3)", 0);
    }

    private static void numberToRemove() {
        edges.sentence("remove: number: its number");
        edges.range(FIVE_SENDERS, "remove(0, #)", 0, 4, Edges.NO_SUCH);
        edges.range(FOUR_MACHINES, "remove(1, #)", 0, 3, Edges.NO_SUCH);
        edges.range(EIGHT_LAMPS, "remove(2, #)", 0, 7, Edges.NO_SUCH);
        edges.is(FIVE_SENDERS.and("remove(0, 4)"), "senderOf(4, 0)", Edges.NO_SUCH);
        edges.is(FIVE_SENDERS.and("remove(0, 4)"), "senderOf(3, 0)", 1);
        edges.is(FOUR_MACHINES.and("remove(1, 3)"), "machineOf(3, 0)", Edges.NO_SUCH);
        edges.is(FOUR_MACHINES.and("remove(1, 3)"), "machineOf(2, 0)", 2);
        edges.is(EIGHT_LAMPS.and("remove(2, 7)"), "lampOf(7, 0)", Edges.NO_SUCH);
        edges.is(EIGHT_LAMPS.and("remove(2, 7)"), "lampOf(6, 0)", 4);
    }

    private static void nothingToRemove() {
        edges.sentence("NO_SUCH if there is no such thing.");
        edges.refused(NEW, "remove(0, 0)", Edges.NO_SUCH);
        edges.refused(Run.of("machine(0, 5, 5)", "lamp(0, 0, 0)"), "remove(0, 0)", Edges.NO_SUCH);
        edges.refused(Run.of("sender(0, 5)", "lamp(0, 0, 0)"), "remove(1, 0)", Edges.NO_SUCH);
        edges.refused(Run.of("sender(0, 5)", "machine(0, 5, 5)"), "remove(2, 0)", Edges.NO_SUCH);
        edges.refused(FIVE_SENDERS.and("remove(0, 2)"), "remove(0, 2)", Edges.NO_SUCH);
        edges.refused(FOUR_MACHINES.and("remove(1, 2)"), "remove(1, 2)", Edges.NO_SUCH);
        edges.refused(EIGHT_LAMPS.and("remove(2, 2)"), "remove(2, 2)", Edges.NO_SUCH);
    }

    private static void senderToSay() {
        edges.sentence("say: sender: number of a sender");
        edges.range(FIVE_SENDERS, "say(#, 3)", 0, 4, Edges.NO_SUCH);
        edges.refused(NEW, "say(0, 3)", Edges.NO_SUCH);
        edges.refused(FOUR_SENDERS, "say(4, 3)", Edges.NO_SUCH);
        edges.refused(FIVE_SENDERS.and("remove(0, 2)"), "say(2, 3)", Edges.NO_SUCH);
        edges.is(FIVE_SENDERS.and("say(4, 3)"), "queued(4, 0)", 3);
        edges.is(FIVE_SENDERS.and("say(4, 3)"), "queued(3, 0)", Edges.NONE);
    }

    private static void wordToSay() {
        edges.sentence("say: word: 0 to 31");
        edges.range(FIVE_SENDERS, "say(0, #)", 0, 31, Edges.BAD_VALUE);
        edges.is(FIVE_SENDERS.and("say(0, 0)"), "queued(0, 0)", 0);
        edges.is(FIVE_SENDERS.and("say(0, 31)"), "queued(0, 0)", 31);
    }

    private static void roomInAQueue() {
        edges.sentence("TOO_MANY if there are 6 words in the queue.");
        Run five = FIVE_SENDERS.times(5, "say(0, 9)");
        Run six = five.and("say(0, 31)");
        edges.is(five, "say(0, 31)", 6);
        edges.is(six, "queued(0, 5)", 31);
        edges.refused(six, "say(0, 31)", Edges.TOO_MANY);
        edges.is(six, "say(1, 31)", 1);
        edges.refused(six.and("pass(33)"), "say(0, 31)", Edges.TOO_MANY);
        edges.is(six.and("pass(34)"), "say(0, 31)", 6);
        edges.is(six.and("pass(34)", "say(0, 7)"), "queued(0, 5)", 7);
        edges.refused(six.and("pass(34)", "say(0, 7)"), "say(0, 31)", Edges.TOO_MANY);
    }

    private static void endOfAQueue() {
        edges.sentence("Gives a word to a sender: it is added to the end of its queue.");
        Run six = FIVE_SENDERS.and("say(2, 31)", "say(2, 0)", "say(2, 31)", "say(2, 5)", "say(2, 1)", "say(2, 4)");
        edges.each(six, "queued(2, #)", 31, 0, 31, 5, 1, 4, Edges.NONE);
        edges.each(FIVE_SENDERS.and("say(2, 31)", "say(2, 0)"), "queued(2, #)", 31, 0, Edges.NONE);
    }

    private static void machineToRun() {
        edges.sentence("run: machine: number of a machine");
        edges.range(FOUR_MACHINES, "run(#, true)", 0, 3, Edges.NO_SUCH);
        edges.range(FOUR_MACHINES, "run(#, false)", 0, 3, Edges.NO_SUCH);
        edges.refused(NEW, "run(0, true)", Edges.NO_SUCH);
        edges.refused(THREE_MACHINES, "run(3, false)", Edges.NO_SUCH);
        edges.refused(FOUR_MACHINES.and("remove(1, 1)"), "run(1, false)", Edges.NO_SUCH);
        edges.is(FOUR_MACHINES.and("run(3, false)"), "machineOf(3, 3)", 0);
        edges.is(FOUR_MACHINES.and("run(3, false)"), "machineOf(2, 3)", 1);
    }

    private static void ranBefore() {
        edges.sentence("Returns 1 if it ran before, otherwise 0");
        edges.is(FOUR_MACHINES, "run(0, true)", 1);
        edges.is(FOUR_MACHINES, "run(0, false)", 1);
        edges.is(FOUR_MACHINES.and("run(0, false)"), "run(0, false)", 0);
        edges.is(FOUR_MACHINES.and("run(0, false)"), "run(0, true)", 0);
        edges.is(FOUR_MACHINES.and("run(0, false)", "run(0, true)"), "run(0, true)", 1);
    }

    private static void noSuchSetting() {
        edges.sentence("setting: CROSS to COPIES");
        edges.range(NEW, "set(#, 3)", 0, 3, Edges.NO_SUCH);
        edges.each(NEW, "set(#, 3)", 6, 5, 4, 2);
    }

    private static void cross() {
        edges.sentence("CROSS (0 to 9; 6 at first)");
        aSetting(0, 0, 9, 6);
    }

    private static void door() {
        edges.sentence("DOOR (0 to 9; 5 at first)");
        aSetting(1, 0, 9, 5);
    }

    private static void sense() {
        edges.sentence("SENSE (1 to 9; 4 at first)");
        aSetting(2, 1, 9, 4);
    }

    private static void copies() {
        edges.sentence("COPIES (1 to 3; 2 at first)");
        aSetting(3, 1, 3, 2);
    }

    private static void aSetting(int setting, int least, int most, int first) {
        String pattern = "set(" + setting + ", #)";
        String query = "count(" + (7 + setting) + ")";
        edges.range(NEW, pattern, least, most, Edges.BAD_VALUE);
        edges.is(NEW, query, first);
        edges.is(NEW, Edges.with(pattern, least), first);
        edges.is(NEW.and(Edges.with(pattern, least)), query, least);
        edges.is(NEW.and(Edges.with(pattern, least)), Edges.with(pattern, most), least);
        edges.is(NEW.and(Edges.with(pattern, most)), query, most);
        edges.is(NEW.and(Edges.with(pattern, most)), Edges.with(pattern, least), most);
    }

    private static void beatsToPass() {
        edges.sentence("pass: beats: 1 to 99");
        edges.range(NEW, "pass(#)", 1, 99, Edges.BAD_VALUE);
        edges.is(NEW.and("pass(1)"), "count(0)", 1);
        edges.is(NEW.and("pass(99)"), "count(0)", 99);
        Run busy = Run.of("sender(0, 9)", "lamp(0, 0, 0)", "say(0, 0)", "pass(7)");
        edges.range(busy, "pass(#)", 1, 99, Edges.BAD_VALUE);
    }

    private static void newWordsOfAllReceivers() {
        edges.sentence("Returns the number of new words that all receivers tell in these beats");
        Run said = Run.of("sender(0, 4)", "say(0, 9)");
        edges.is(said, "pass(13)", 0);
        edges.is(said, "pass(14)", 1);
        edges.is(said.and("pass(13)"), "pass(1)", 1);
        edges.is(said.and("pass(14)"), "pass(99)", 0);
        Run all = Run.of("set(0, 0)", "set(1, 0)", "sender(0, 4)", "say(0, 9)");
        edges.is(all, "pass(14)", 6);
        edges.is(all.and("pass(14)"), "pass(17)", 0);
    }
}
