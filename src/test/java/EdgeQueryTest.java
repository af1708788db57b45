/** The boundary cases of promises 17 to 25: the numbers and places that are asked for, and NONE. */
public final class EdgeQueryTest {
    private static final Edges edges = new Edges("EdgeQueryTest");
    private static final Run NEW = Run.of();
    private static final Run FIVE_SENDERS = NEW.times(4, "sender(1, 5)").and("sender(2, 6)");
    private static final Run FOUR_MACHINES = NEW.times(3, "machine(2, 5, 7)").and("machine(3, 6, 8)");
    private static final Run EIGHT_LAMPS = NEW.times(7, "lamp(4, 1, 2)").and("lamp(5, 2, 3)");

    public static void main(String[] args) {
        senderAsked();
        whatOfASender();
        restingSender();
        bitInTheNextBeat();
        senderOfAQueue();
        placeInAQueue();
        notSoManyWords();
        machineAsked();
        whatOfAMachine();
        lampAsked();
        whatOfALamp();
        wireOfAReceiver();
        whatOfAReceiver();
        bitsOfAReceiver();
        wordOfAReceiver();
        openLetters();
        wordOfAFrame();
        indexOfAFrame();
        wireOfALoss();
        otherOfALoss();
        lossAtTheEnds();
        whatIsCounted();
        countedThings();
        countedWords();
        countedLamps();
        whatIsTotal();
        finishedWords();
        disturbances();
        newWordsAndCopies();
        badWords();
        edges.end();
    }

    private static void senderAsked() {
        edges.sentence("senderOf: sender: number of a sender");
        edges.range(FIVE_SENDERS, "senderOf(#, 0)", 0, 4, Edges.NO_SUCH);
        edges.each(FIVE_SENDERS, "senderOf(#, 0)", 1, 1, 1, 1, 2, Edges.NO_SUCH);
        edges.refused(NEW, "senderOf(0, 0)", Edges.NO_SUCH);
        edges.refused(FIVE_SENDERS.and("remove(0, 4)"), "senderOf(4, 0)", Edges.NO_SUCH);
        edges.refused(FIVE_SENDERS.and("remove(0, 0)"), "senderOf(0, 0)", Edges.NO_SUCH);
    }

    private static void whatOfASender() {
        edges.sentence("what: 0 for its wire, 1 for its strength, 2 for the number of words in its queue, 3 for its "
            + "place (NONE if it rests), 4 for its copy (NONE if it rests), 5 for its pause, 6 for the bit that it "
            + "would send if it spoke on in the next beat (NONE if it rests)");
        edges.range(FIVE_SENDERS.and("say(4, 0)", "pass(1)"), "senderOf(4, #)", 0, 6, Edges.BAD_VALUE);
        edges.each(FIVE_SENDERS, "senderOf(4, #)", 2, 6, 0, Edges.NONE, Edges.NONE, 0, Edges.NONE, Edges.BAD_VALUE);
        Run speaks = FIVE_SENDERS.and("say(4, 0)", "pass(18)");
        edges.each(speaks, "senderOf(4, #)", 2, 6, 1, 1, 1, 0, 1, Edges.BAD_VALUE);
    }

    private static void restingSender() {
        edges.sentence("NONE if it rests");
        Run said = Run.of("sender(0, 9)", "say(0, 0)");
        for (int what : new int[] {3, 4, 6}) {
            String query = Edges.with("senderOf(0, #)", what);
            edges.is(said, query, Edges.NONE);
            edges.is(said.and("pass(34)"), query, Edges.NONE);
            edges.is(said.and("machine(0, 9, 3)", "pass(4)"), query, Edges.NONE);
        }
        edges.is(said.and("pass(17)"), "senderOf(0, 3)", 0);
        edges.is(said.and("pass(1)"), "senderOf(0, 4)", 0);
        edges.is(said.and("pass(33)"), "senderOf(0, 6)", 0);
    }

    private static void bitInTheNextBeat() {
        edges.sentence("6 for the bit that it would send if it spoke on in the next beat");
        Run said = Run.of("sender(0, 9)", "say(0, 0)");
        int[] bits = {1, 1, 0, 0, 1, 0, 1, 0, 1, 0, 1, 0, 1, 0, 0, 0, 1, 1};
        for (int beats = 1; beats <= bits.length; beats++) {
            edges.is(said.and(Edges.with("pass(#)", beats)), "senderOf(0, 6)", bits[beats - 1]);
        }
    }

    private static void senderOfAQueue() {
        edges.sentence("queued: sender: number of a sender");
        edges.range(FIVE_SENDERS, "queued(#, 0)", 0, 4, Edges.NO_SUCH);
        edges.refused(NEW, "queued(0, 0)", Edges.NO_SUCH);
        edges.refused(FIVE_SENDERS.and("remove(0, 4)"), "queued(4, 0)", Edges.NO_SUCH);
    }

    private static void placeInAQueue() {
        edges.sentence("BAD_VALUE if place is below 0");
        Run six = Run.of("sender(0, 9)").times(5, "say(0, 31)").and("say(0, 7)");
        edges.is(six, "queued(0, 0)", 31);
        edges.refused(six, "queued(0, -1)", Edges.BAD_VALUE);
        edges.refused(six, "queued(0, -2147483648)", Edges.BAD_VALUE);
        edges.refused(FIVE_SENDERS, "queued(0, -1)", Edges.BAD_VALUE);
    }

    private static void notSoManyWords() {
        edges.sentence("NONE if there are not so many words.");
        Run six = Run.of("sender(0, 9)").times(5, "say(0, 31)").and("say(0, 7)");
        edges.is(six, "queued(0, 5)", 7);
        edges.is(six, "queued(0, 6)", Edges.NONE);
        edges.is(six, "queued(0, 2147483647)", Edges.NONE);
        edges.is(FIVE_SENDERS, "queued(0, 0)", Edges.NONE);
        edges.is(FIVE_SENDERS.and("say(0, 3)"), "queued(0, 0)", 3);
        edges.is(FIVE_SENDERS.and("say(0, 3)"), "queued(0, 1)", Edges.NONE);
        edges.is(six.and("pass(34)"), "queued(0, 4)", 7);
        edges.is(six.and("pass(34)"), "queued(0, 5)", Edges.NONE);
    }

    private static void machineAsked() {
        edges.sentence("machineOf: machine: number of a machine");
        edges.range(FOUR_MACHINES, "machineOf(#, 0)", 0, 3, Edges.NO_SUCH);
        edges.each(FOUR_MACHINES, "machineOf(#, 0)", 2, 2, 2, 3, Edges.NO_SUCH);
        edges.refused(NEW, "machineOf(0, 0)", Edges.NO_SUCH);
        edges.refused(FOUR_MACHINES.and("remove(1, 3)"), "machineOf(3, 0)", Edges.NO_SUCH);
    }

    private static void whatOfAMachine() {
        edges.sentence("what: 0 for its wire, 1 for its strength, 2 for its period, 3 for whether it runs (1 or 0)");
        edges.range(FOUR_MACHINES, "machineOf(3, #)", 0, 3, Edges.BAD_VALUE);
        edges.each(FOUR_MACHINES, "machineOf(3, #)", 3, 6, 8, 1, Edges.BAD_VALUE);
        edges.each(FOUR_MACHINES.and("run(3, false)"), "machineOf(3, #)", 3, 6, 8, 0, Edges.BAD_VALUE);
    }

    private static void lampAsked() {
        edges.sentence("lampOf: lamp: number of a lamp");
        edges.range(EIGHT_LAMPS, "lampOf(#, 0)", 0, 7, Edges.NO_SUCH);
        edges.each(EIGHT_LAMPS, "lampOf(#, 0)", 4, 4, 4, 4, 4, 4, 4, 5, Edges.NO_SUCH);
        edges.refused(NEW, "lampOf(0, 0)", Edges.NO_SUCH);
        edges.refused(EIGHT_LAMPS.and("remove(2, 7)"), "lampOf(7, 0)", Edges.NO_SUCH);
    }

    private static void whatOfALamp() {
        edges.sentence("what: 0 for its wire, 1 for its letter, 2 for its unit, 3 for its level, 4 for whether it is "
            + "selected (1 or 0)");
        edges.range(EIGHT_LAMPS, "lampOf(7, #)", 0, 4, Edges.BAD_VALUE);
        edges.each(EIGHT_LAMPS, "lampOf(7, #)", 5, 2, 3, 0, 0, Edges.BAD_VALUE);
        Run lit = EIGHT_LAMPS.and("sender(5, 9)", "say(0, 19)", "say(0, 20)", "pass(68)");
        edges.each(lit, "lampOf(7, #)", 5, 2, 3, 9, 1, Edges.BAD_VALUE);
    }

    private static void wireOfAReceiver() {
        edges.sentence("receiver: wire: 0 to 5");
        edges.range(NEW, "receiver(#, 1)", 0, 5, Edges.NO_SUCH);
        Run noise = Run.of("machine(5, 4, 2)", "pass(1)");
        edges.each(noise, "receiver(#, 1)", 0, 0, 0, 0, 0, 1, Edges.NO_SUCH);
    }

    private static void whatOfAReceiver() {
        edges.sentence("what: 0 for the number of bits that it has read (NONE if it listens), 1 for the latest four "
            + "bits as a number whose lowest bit is the latest one (NONE if it reads), 2 for the word that it told "
            + "last (NONE if it has told none), 3 for the beats since then (the time less the time at which it told; "
            + "NONE likewise), 4 for the letters that are open, as a bit mask in which bit k stands for the letter k");
        edges.range(NEW, "receiver(0, #)", 0, 4, Edges.BAD_VALUE);
        edges.each(NEW, "receiver(0, #)", Edges.NONE, 0, Edges.NONE, Edges.NONE, 15, Edges.BAD_VALUE);
        Run told = Run.of("sender(0, 9)", "say(0, 31)", "pass(14)");
        edges.each(told, "receiver(0, #)", Edges.NONE, 0, 31, 1, 7, Edges.BAD_VALUE);
        edges.each(told.and("pass(7)"), "receiver(0, #)", 0, Edges.NONE, 31, 8, 7, Edges.BAD_VALUE);
    }

    private static void bitsOfAReceiver() {
        edges.sentence("(NONE if it listens), (NONE if it reads)");
        Run said = Run.of("sender(0, 9)", "say(0, 31)");
        edges.is(said.and("pass(3)"), "receiver(0, 0)", Edges.NONE);
        edges.is(said.and("pass(3)"), "receiver(0, 1)", 7);
        edges.is(said.and("pass(4)"), "receiver(0, 0)", 0);
        edges.is(said.and("pass(4)"), "receiver(0, 1)", Edges.NONE);
        edges.is(said.and("pass(13)"), "receiver(0, 0)", 9);
        edges.is(said.and("pass(13)"), "receiver(0, 1)", Edges.NONE);
        edges.is(said.and("pass(14)"), "receiver(0, 0)", Edges.NONE);
        edges.is(said.and("pass(14)"), "receiver(0, 1)", 0);
        edges.is(said.and("pass(18)"), "receiver(0, 1)", 1);
        Run noise = Run.of("machine(0, 4, 3)");
        edges.is(noise.and("pass(4)"), "receiver(0, 1)", 9);
        edges.is(noise.and("pass(3)"), "receiver(0, 1)", 4);
    }

    private static void wordOfAReceiver() {
        edges.sentence("(NONE if it has told none), the time less the time at which it told; NONE likewise");
        Run said = Run.of("sender(0, 9)", "say(0, 0)");
        edges.is(said.and("pass(13)"), "receiver(0, 2)", Edges.NONE);
        edges.is(said.and("pass(13)"), "receiver(0, 3)", Edges.NONE);
        edges.is(said.and("pass(14)"), "receiver(0, 2)", 0);
        edges.is(said.and("pass(14)"), "receiver(0, 3)", 1);
        edges.is(said.and("pass(30)"), "receiver(0, 3)", 17);
        edges.is(said.and("pass(31)"), "receiver(0, 3)", 1);
        edges.is(said.and("pass(31)", "pass(99)", "pass(99)"), "receiver(0, 3)", 199);
    }

    private static void openLetters() {
        edges.sentence("4 for the letters that are open, as a bit mask in which bit k stands for the letter k");
        Run sender = Run.of("set(3, 1)", "sender(0, 4)");
        edges.is(sender.and("say(0, 4)", "pass(14)"), "receiver(0, 4)", 14);
        edges.is(sender.and("say(0, 12)", "pass(14)"), "receiver(0, 4)", 13);
        edges.is(sender.and("say(0, 20)", "pass(14)"), "receiver(0, 4)", 11);
        edges.is(sender.and("say(0, 28)", "pass(14)"), "receiver(0, 4)", 7);
        Run all = sender.and("say(0, 4)", "say(0, 12)", "say(0, 20)", "say(0, 28)", "pass(68)");
        edges.is(all, "receiver(0, 4)", 0);
        edges.is(all, "receiver(1, 4)", 15);
        edges.is(all.and("say(0, 24)", "pass(14)"), "receiver(0, 4)", 8);
        edges.is(all.and("say(0, 3)", "pass(14)"), "receiver(0, 4)", 1);
    }

    private static void wordOfAFrame() {
        edges.sentence("frame: word: 0 to 31");
        edges.range(NEW, "frame(#, 0)", 0, 31, Edges.BAD_VALUE);
        edges.is(NEW, "frame(0, 4)", 0);
        edges.is(NEW, "frame(31, 4)", 1);
    }

    private static void indexOfAFrame() {
        edges.sentence("frame: index: 0 to 13");
        edges.range(NEW, "frame(0, #)", 0, 13, Edges.BAD_VALUE);
        edges.range(NEW, "frame(31, #)", 0, 13, Edges.BAD_VALUE);
        edges.is(NEW, "frame(0, 0)", 1);
        edges.is(NEW, "frame(0, 13)", 1);
        edges.is(NEW, "frame(31, 13)", 0);
    }

    private static void wireOfALoss() {
        edges.sentence("loss: wire: 0 to 5");
        edges.range(NEW, "loss(#, 2)", 0, 5, Edges.NO_SUCH);
        edges.each(NEW, "loss(#, 2)", 6, 6, 0, 11, 11, 5, Edges.NO_SUCH);
    }

    private static void otherOfALoss() {
        edges.sentence("loss: other: 0 to 5");
        edges.range(NEW, "loss(3, #)", 0, 5, Edges.NO_SUCH);
        edges.each(NEW, "loss(3, #)", 5, 11, 11, 0, 6, 6, Edges.NO_SUCH);
    }

    private static void lossAtTheEnds() {
        edges.sentence("0 on the same wire; CROSS between two phases of a house; DOOR between the same phases of both "
            + "houses; CROSS + DOOR otherwise.");
        edges.each(NEW.and("set(0, 0)", "set(1, 9)"), "loss(0, #)", 0, 0, 0, 9, 9, 9);
        edges.each(NEW.and("set(0, 9)", "set(1, 0)"), "loss(0, #)", 0, 9, 9, 0, 9, 9);
        edges.each(NEW.and("set(0, 9)", "set(1, 9)"), "loss(0, #)", 0, 9, 9, 9, 18, 18);
        edges.each(NEW.and("set(0, 0)", "set(1, 0)"), "loss(0, #)", 0, 0, 0, 0, 0, 0);
    }

    private static void whatIsCounted() {
        edges.sentence("count: what: 0 for the time .. 12 for the length of the text");
        edges.range(NEW, "count(#)", 0, 12, Edges.BAD_VALUE);
        Run busy = Run.of("sender(0, 9)", "machine(3, 1, 5)", "lamp(0, 0, 0)", "set(0, 1)", "set(1, 2)", "set(2, 3)",
            "set(3, 1)").type("0:A0A+A-,t20").and("perform()");
        edges.each(busy, "count(#)", 20, 1, 1, 1, 1, 2, 0, 1, 2, 3, 1, 4, 12, Edges.BAD_VALUE);
    }

    private static void countedThings() {
        edges.sentence("1 for the number of senders, 2 of machines, 3 of lamps, 4 of senders that speak");
        Run all = FIVE_SENDERS.times(4, "machine(5, 1, 2)").times(8, "lamp(5, 0, 0)");
        edges.each(all, "count(#)", 0, 5, 4, 8, 0);
        edges.each(all.and("remove(0, 0)", "remove(1, 3)", "remove(2, 7)"), "count(#)", 0, 4, 3, 7, 0);
        Run speak = all.and("say(0, 1)", "say(4, 1)");
        edges.is(speak, "count(4)", 0);
        edges.is(speak.and("pass(1)"), "count(4)", 2);
        edges.is(speak.and("pass(33)"), "count(4)", 2);
        edges.is(speak.and("pass(34)"), "count(4)", 0);
        edges.is(speak.and("pass(1)", "remove(0, 4)"), "count(4)", 1);
    }

    private static void countedWords() {
        edges.sentence("5 of words in all queues");
        Run full = NEW.times(5, "sender(0, 9)");
        for (int number = 0; number < 5; number++) {
            full = full.times(6, Edges.with("say(#, 0)", number));
        }
        edges.is(full, "count(5)", 30);
        edges.is(full.and("pass(33)"), "count(5)", 30);
        edges.is(full.and("pass(34)"), "count(5)", 25);
        edges.is(full.and("remove(0, 4)"), "count(5)", 24);
        edges.is(NEW, "count(5)", 0);
    }

    private static void countedLamps() {
        edges.sentence("6 of lamps with a level above 0");
        Run up = Run.of("set(3, 1)", "sender(0, 4)", "lamp(0, 0, 0)", "lamp(0, 0, 1)", "say(0, 0)", "say(0, 6)");
        edges.is(up.and("pass(30)"), "count(6)", 0);
        edges.is(up.and("pass(31)"), "count(6)", 1);
        edges.is(up.and("pass(31)", "remove(2, 0)"), "count(6)", 0);
        edges.is(up.and("say(0, 5)", "pass(48)"), "count(6)", 0);
    }

    private static void whatIsTotal() {
        edges.sentence("total: what: 0 for words that senders finished .. 4 for bad words");
        edges.range(NEW, "total(#)", 0, 4, Edges.BAD_VALUE);
        edges.each(NEW, "total(#)", 0, 0, 0, 0, 0, Edges.BAD_VALUE);
    }

    private static void finishedWords() {
        edges.sentence("0 for words that senders finished (removed from their queues behind their copies)");
        Run said = Run.of("sender(0, 9)", "say(0, 0)", "say(0, 1)");
        edges.is(said.and("pass(33)"), "total(0)", 0);
        edges.is(said.and("pass(34)"), "total(0)", 1);
        edges.is(said.and("pass(67)"), "total(0)", 1);
        edges.is(said.and("pass(68)"), "total(0)", 2);
        edges.is(said.and("pass(33)", "remove(0, 0)", "pass(9)"), "total(0)", 0);
    }

    private static void disturbances() {
        edges.sentence("1 for how often a sender was disturbed");
        Run noise = Run.of("sender(0, 9)", "say(0, 0)", "machine(0, 9, 20)", "pass(17)");
        edges.is(noise.and("pass(3)"), "total(1)", 0);
        edges.is(noise.and("pass(4)"), "total(1)", 1);
        Run two = Run.of("sender(0, 9)", "sender(0, 9)", "say(0, 1)", "say(1, 0)");
        edges.is(two.and("pass(12)"), "total(1)", 0);
        edges.is(two.and("pass(13)"), "total(1)", 1);
        Run three = two.and("sender(0, 9)", "say(2, 0)");
        edges.is(three.and("pass(13)"), "total(1)", 2);
    }

    private static void newWordsAndCopies() {
        edges.sentence("2 for new words that receivers told, 3 for copies that they told");
        Run said = Run.of("set(3, 3)", "sender(0, 9)", "say(0, 0)");
        int[] beats = {13, 14, 30, 31, 47, 48};
        int[] fresh = {0, 2, 2, 2, 2, 2};
        int[] copies = {0, 0, 0, 2, 2, 4};
        for (int i = 0; i < beats.length; i++) {
            edges.is(said.and(Edges.with("pass(#)", beats[i])), "total(2)", fresh[i]);
            edges.is(said.and(Edges.with("pass(#)", beats[i])), "total(3)", copies[i]);
        }
    }

    private static void badWords() {
        edges.sentence("4 for bad words");
        Run breaks = Run.of("sender(0, 9)", "say(0, 0)", "pass(4)", "remove(0, 0)");
        edges.is(breaks.and("pass(1)"), "total(4)", 0);
        edges.is(breaks.and("pass(2)"), "total(4)", 2);
        edges.is(breaks.and("pass(99)"), "total(4)", 2);
        edges.is(breaks.and("pass(99)"), "total(2)", 0);
    }
}
