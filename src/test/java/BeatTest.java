/** What a beat does (promise 9 and all that tell of it): wires, senders, machines, receivers, lamps. */
public final class BeatTest {
    private static final Due due = new Due("BeatTest");

    public static void main(String[] args) {
        oneSenderSpeaks();
        receiverReads();
        copiesByTheirTime();
        lossesOnEachWire();
        noiseOfMachines();
        sendersAreDisturbed();
        equalWordsAreNotDisturbed();
        sendersWait();
        anUnheardSender();
        badWords();
        copiesAreSet();
        lampsObey();
        openLetters();
        due.end();
    }

    private static MainsWords withSender(int wire, int strength, int... words) {
        MainsWords x = new MainsWords();
        x.sender(wire, strength);
        for (int word : words) {
            x.say(0, word);
        }
        return x;
    }

    private static void oneSenderSpeaks() {
        MainsWords x = withSender(0, 9, 22);
        due.is("it rests before the beat", x.senderOf(0, 3), -5);
        for (int beat = 1; beat <= 33; beat++) {
            x.pass(1);
            int place = beat % 17;
            due.is("place after beat " + beat, x.senderOf(0, 3), place);
            due.is("copy after beat " + beat, x.senderOf(0, 4), beat / 17);
            due.is("bit after beat " + beat, x.senderOf(0, 6), place < 14 ? x.frame(22, place) : 0);
            due.is("words after beat " + beat, x.senderOf(0, 2), 1);
        }
        x.pass(1);
        due.is("it rests after both copies", x.senderOf(0, 3), -5);
        due.is("its word is removed", x.senderOf(0, 2), 0);
        due.is("it has finished one", x.total(0), 1);
        due.is("it was not disturbed", x.total(1), 0);
        due.is("it has no pause", x.senderOf(0, 5), 0);
    }

    private static void receiverReads() {
        MainsWords x = withSender(0, 9, 31);
        int[] latest = {1, 3, 7};
        for (int beat = 1; beat <= 3; beat++) {
            x.pass(1);
            due.is("latest bits after beat " + beat, x.receiver(0, 1), latest[beat - 1]);
            due.is("it listens after beat " + beat, x.receiver(0, 0), -5);
        }
        for (int beat = 4; beat <= 13; beat++) {
            x.pass(1);
            due.is("bits read after beat " + beat, x.receiver(0, 0), beat - 4);
            due.is("no latest bits after beat " + beat, x.receiver(0, 1), -5);
            due.is("no word after beat " + beat, x.receiver(0, 2), -5);
        }
        due.is("two receivers tell in beat 14", x.pass(1), 2);
        due.is("it listens", x.receiver(0, 0), -5);
        due.is("as if it had heard 0, 0, 0, 0", x.receiver(0, 1), 0);
        due.is("the word", x.receiver(0, 2), 31);
        due.is("the beats since", x.receiver(0, 3), 1);
        due.is("the same in the other house", x.receiver(3, 2), 31);
        due.is("not on the other phases", x.receiver(1, 2), -5);
        for (int word = 0; word < 32; word++) {
            MainsWords y = withSender(4, 9, word);
            due.is("word " + word + " is told in beat 14", y.pass(14), 2);
            due.is("it is the word " + word, y.receiver(4, 2), word);
            due.is("and through the door " + word, y.receiver(1, 2), word);
        }
    }

    private static void copiesByTheirTime() {
        MainsWords x = withSender(0, 4, 2);
        due.is("told at the time 13", x.pass(14), 1);
        due.is("told again at the time 30", x.pass(17), 0);
        due.is("it is a copy", x.total(3), 1);
        due.is("the time of telling changes", x.receiver(0, 3), 1);
        due.is("behind the copies", x.pass(3), 0);
        x.say(0, 2);
        due.is("said again at once, 17 beats later", x.pass(14), 0);
        due.is("it is a copy too", x.total(3), 2);
        x.pass(20);
        due.is("its second copy", x.total(3), 3);
        x.pass(1);
        x.say(0, 2);
        due.is("said again 18 beats later", x.pass(34), 1);
        due.is("it is new, then a copy", x.total(3), 4);
        due.is("new words", x.total(2), 2);
        x.say(0, 3);
        x.say(0, 2);
        due.is("another word in between makes it new", x.pass(68), 2);
        due.is("their copies", x.total(3), 6);
    }

    private static void lossesOnEachWire() {
        // CROSS 2, DOOR 3: what leaves wire 4 comes to the wires 0 to 5 with these losses.
        int[] losses = {5, 3, 5, 2, 0, 2};
        for (int strength = 1; strength <= 9; strength++) {
            MainsWords x = new MainsWords();
            x.set(0, 2);
            x.set(1, 3);
            x.sender(4, strength);
            x.machine(4, strength, 7);
            x.pass(1);
            for (int wire = 0; wire < 6; wire++) {
                int heard = strength - losses[wire] >= 4 ? 1 : 0;
                due.is("noise of " + strength + " on wire " + wire, x.receiver(wire, 1), heard);
            }
            x.pass(4);
            x.say(0, 0);
            x.pass(1);
            for (int wire = 0; wire < 6; wire++) {
                int heard = strength - losses[wire] >= 4 ? 1 : 0;
                due.is("word of " + strength + " on wire " + wire, x.receiver(wire, 1), heard);
            }
        }
        MainsWords x = new MainsWords();
        x.machine(0, 3, 20);
        x.machine(0, 3, 20);
        x.pass(1);
        due.is("strengths are not added", x.receiver(0, 1), 0);
    }

    private static void noiseOfMachines() {
        MainsWords x = new MainsWords();
        x.machine(2, 4, 3);
        int[] latest = {1, 2, 4, 9, 2, 4, 9};
        for (int beat = 0; beat < latest.length; beat++) {
            x.pass(1);
            due.is("latest bits after beat " + beat, x.receiver(2, 1), latest[beat]);
        }
        due.is("not on another wire", x.receiver(1, 1), 0);
        MainsWords y = new MainsWords();
        y.pass(3);
        y.machine(0, 9, 4);
        y.pass(1);
        due.is("no noise at the time 3", y.receiver(0, 1), 0);
        y.pass(1);
        due.is("noise at the time 4", y.receiver(0, 1), 1);
        MainsWords z = new MainsWords();
        z.machine(0, 9, 2);
        z.machine(0, 9, 3);
        z.pass(5);
        due.is("noise at 0, 2, 3, 4: 1 0 1 1 1", z.receiver(0, 1), 7);
        z.pass(1);
        due.is("1, 1, 1, 0: it reads", z.receiver(0, 0), 0);
    }

    private static void sendersAreDisturbed() {
        MainsWords x = withSender(0, 9, 1);
        x.sender(0, 9);
        x.say(1, 0);
        due.is("alike up to the place 12", x.pass(12), 0);
        due.is("both speak", x.count(4), 2);
        x.pass(1);
        due.is("sender 1 sent a 0 and heard a 1", x.senderOf(1, 3), -5);
        due.is("it has no copy", x.senderOf(1, 4), -5);
        due.is("it would send nothing", x.senderOf(1, 6), -5);
        due.is("its pause is 3 + 2 * 1", x.senderOf(1, 5), 5);
        due.is("its word stays", x.queued(1, 0), 0);
        due.is("sender 0 speaks on", x.senderOf(0, 3), 13);
        due.is("disturbed once", x.total(1), 1);
        due.is("the word of sender 0 is told", x.pass(1), 2);
        due.is("it is the word 1", x.receiver(0, 2), 1);
        for (int left = 4; left > 0; left--) {
            due.is("the pause", x.senderOf(1, 5), left);
            x.pass(1);
        }
        due.is("the pause is over", x.senderOf(1, 5), 0);
        due.is("it still rests", x.senderOf(1, 3), -5);
        x.pass(13);
        due.is("the copy is told at the time 30", x.total(3), 2);
        due.is("it rests up to the time 31", x.senderOf(1, 3), -5);
        x.pass(1);
        due.is("it begins in the silent places of the other", x.senderOf(1, 3), 1);
        due.is("which still speaks", x.senderOf(0, 3), 15);
        x.pass(2);
        due.is("sender 0 finishes: a 1 in its silent places is no disturbance", x.total(0), 1);
        due.is("disturbed still once", x.total(1), 1);
        for (int number = 0; number < 5; number++) {
            MainsWords y = new MainsWords();
            y.pass(3);
            for (int i = 0; i < 5; i++) {
                y.sender(0, 9);
            }
            y.say(number, 0);
            y.machine(0, 9, 7);
            y.pass(5);
            due.is("the pause of sender " + number, y.senderOf(number, 5), 3 + 2 * number);
        }
    }

    private static void equalWordsAreNotDisturbed() {
        MainsWords x = withSender(0, 9, 12);
        x.sender(0, 5);
        x.say(1, 12);
        x.pass(34);
        due.is("both finish", x.total(0), 2);
        due.is("none is disturbed", x.total(1), 0);
        MainsWords y = withSender(0, 9, 12);
        y.sender(1, 9);
        y.say(1, 13);
        y.pass(34);
        due.is("both finish on wires that don't hear each other", y.total(0), 2);
        due.is("none hears the other", y.total(1), 0);
    }

    private static void sendersWait() {
        MainsWords x = new MainsWords();
        x.machine(0, 9, 20);
        x.sender(0, 9);
        x.pass(1);
        x.say(0, 5);
        for (int beat = 2; beat <= 5; beat++) {
            due.is("it waits in beat " + beat, x.pass(1) + x.senderOf(0, 3), -5);
        }
        due.is("the noise is behind the latest four bits", x.receiver(0, 1), 0);
        x.pass(1);
        due.is("it begins", x.senderOf(0, 3), 1);
        MainsWords y = withSender(0, 9, 5);
        y.sender(3, 9);
        y.pass(5);
        y.say(1, 6);
        y.pass(9);
        due.is("it waits while its receiver reads", y.senderOf(1, 3), -5);
        y.pass(1);
        due.is("it begins when the word is told", y.senderOf(1, 3), 1);
        MainsWords z = withSender(0, 9, 5);
        z.sender(0, 9);
        z.say(1, 5);
        z.pass(1);
        due.is("all look before any one sends", z.count(4), 2);
    }

    private static void anUnheardSender() {
        MainsWords x = withSender(0, 3, 7);
        x.pass(34);
        due.is("it finishes its word", x.total(0), 1);
        due.is("no one tells it", x.total(2), 0);
        x.set(2, 3);
        x.say(0, 7);
        due.is("a less SENSE lets it be heard", x.pass(34), 1);
        due.is("only on its own wire", x.receiver(0, 2), 7);
        due.is("not on another", x.receiver(3, 2), -5);
    }

    private static void badWords() {
        MainsWords x = new MainsWords();
        x.machine(0, 9, 2);
        x.machine(0, 9, 3);
        x.pass(6);
        due.is("it reads behind 1, 1, 1, 0", x.receiver(0, 0), 0);
        due.is("on the wire 3 too", x.receiver(3, 0), 0);
        x.run(0, false);
        x.run(1, false);
        x.pass(1);
        due.is("one bit", x.receiver(0, 0), 1);
        due.is("not bad yet", x.total(4), 0);
        due.is("no word", x.pass(1), 0);
        due.is("an equal pair is bad, on both wires", x.total(4), 2);
        due.is("it listens", x.receiver(0, 0), -5);
        due.is("as if it had heard 0, 0, 0, 0", x.receiver(0, 1), 0);
        due.is("no word is told", x.receiver(0, 2), -5);
        MainsWords y = withSender(0, 9, 31);
        y.pass(8);
        y.remove(0, 0);
        y.pass(1);
        due.is("one half of a pair", y.receiver(0, 0), 5);
        y.pass(1);
        due.is("a word that breaks off is bad", y.total(4), 2);
        MainsWords z = withSender(0, 9, 1);
        z.machine(0, 4, 13);
        z.run(0, false);
        z.pass(13);
        z.run(0, true);
        due.is("a disturbed last bit", z.pass(1), 1);
        due.is("is bad on the machine's wire", z.total(4), 1);
        due.is("and told where the noise does not come", z.receiver(3, 2), 1);
    }

    private static void copiesAreSet() {
        for (int copies = 1; copies <= 3; copies++) {
            MainsWords x = withSender(0, 4, 9);
            x.set(3, copies);
            due.is("told once", x.pass(17 * copies - 1), 1);
            due.is("not finished yet", x.total(0), 0);
            x.pass(1);
            due.is("finished behind copy " + copies, x.total(0), 1);
            due.is("the others are copies", x.total(3), copies - 1);
        }
        MainsWords x = withSender(0, 4, 9);
        x.set(3, 3);
        x.pass(40);
        x.set(3, 1);
        x.pass(10);
        due.is("a copy that has begun is spoken to its end", x.senderOf(0, 3), 16);
        due.is("it is the third one", x.senderOf(0, 4), 2);
        x.pass(1);
        due.is("it has spoken more than COPIES then", x.total(0), 1);
    }

    private static void lampsObey() {
        MainsWords x = new MainsWords();
        x.sender(0, 4);
        x.set(3, 1);
        x.lamp(0, 1, 2);
        x.lamp(0, 1, 3);
        x.lamp(0, 2, 2);
        x.lamp(1, 1, 2);
        tellWord(x, 8 + 4);
        due.is("ON without a selected lamp", x.count(6), 0);
        tellWord(x, 8 + 2);
        due.is("unit 2 is selected", x.lampOf(0, 4), 1);
        due.is("unit 3 is not", x.lampOf(1, 4), 0);
        due.is("another letter is not", x.lampOf(2, 4), 0);
        due.is("another wire is not", x.lampOf(3, 4), 0);
        tellWord(x, 8 + 6);
        due.is("UP", x.lampOf(0, 3), 1);
        due.is("UP only for the selected one", x.lampOf(1, 3), 0);
        for (int level = 2; level <= 10; level++) {
            x.pass(5);
            tellWord(x, 8 + 6);
            due.is("UP again", x.lampOf(0, 3), Math.min(level, 9));
        }
        tellWord(x, 8 + 5);
        due.is("OFF", x.lampOf(0, 3), 0);
        due.is("OFF leaves it selected", x.lampOf(0, 4), 1);
        tellWord(x, 8 + 4);
        due.is("ON", x.lampOf(0, 3), 9);
        tellWord(x, 8 + 3);
        due.is("a unit behind a command selects anew", x.lampOf(0, 4), 0);
        due.is("the other one is selected", x.lampOf(1, 4), 1);
        tellWord(x, 8 + 4);
        due.is("both are on", x.count(6), 2);
        tellWord(x, 8 + 5);
        due.is("OFF for the selected one alone", x.lampOf(0, 3), 9);
        due.is("it is off", x.lampOf(1, 3), 0);
        tellWord(x, 16 + 7);
        due.is("ALL_OFF of another letter", x.lampOf(0, 3), 9);
        tellWord(x, 8 + 7);
        due.is("ALL_OFF for those that are not selected too", x.count(6), 0);
        due.is("they stay selected", x.lampOf(1, 4), 1);
        due.is("or not", x.lampOf(0, 4), 0);
    }

    private static void openLetters() {
        MainsWords x = new MainsWords();
        x.sender(0, 4);
        x.set(3, 1);
        x.lamp(0, 3, 0);
        x.lamp(0, 3, 1);
        tellWord(x, 24);
        tellWord(x, 25);
        due.is("units of an open letter are added: 0", x.lampOf(0, 4), 1);
        due.is("units of an open letter are added: 1", x.lampOf(1, 4), 1);
        due.is("all letters are open", x.receiver(0, 4), 15);
        int[] commands = {4, 5, 6, 7};
        for (int letter = 0; letter < 4; letter++) {
            tellWord(x, 8 * letter + commands[letter]);
            due.is("a command closes its letter", x.receiver(0, 4), 15 & ~((2 << letter) - 1));
        }
        due.is("the receivers of other wires keep theirs", x.receiver(1, 4), 15);
        tellWord(x, 26);
        due.is("a unit opens its letter", x.receiver(0, 4), 8);
        due.is("a unit that none has deselects: 0", x.lampOf(0, 4), 0);
        due.is("a unit that none has deselects: 1", x.lampOf(1, 4), 0);
        tellWord(x, 1);
        due.is("a letter without lamps opens too", x.receiver(0, 4), 9);
    }

    private static void tellWord(MainsWords x, int word) {
        x.say(0, word);
        due.is("the word " + word + " is new", x.pass(17), 1);
    }
}
