/** Promises 1 to 9: a new object, and the things that are added, removed and changed. */
public final class ThingsTest {
    private static final Due due = new Due("ThingsTest");

    public static void main(String[] args) {
        newObject();
        senders();
        machines();
        lamps();
        removing();
        saying();
        running();
        settings();
        passing();
        due.end();
    }

    private static void newObject() {
        MainsWords x = new MainsWords();
        int[] counts = {0, 0, 0, 0, 0, 0, 0, 6, 5, 4, 2, 0, 0};
        for (int what = 0; what < counts.length; what++) {
            due.is("1: count(" + what + ")", x.count(what), counts[what]);
        }
        for (int what = 0; what < 5; what++) {
            due.is("1: total(" + what + ")", x.total(what), 0);
        }
        for (int wire = 0; wire < 6; wire++) {
            due.is("1: receiver(" + wire + ", 0)", x.receiver(wire, 0), -5);
            due.is("1: receiver(" + wire + ", 1)", x.receiver(wire, 1), 0);
            due.is("1: receiver(" + wire + ", 2)", x.receiver(wire, 2), -5);
            due.is("1: receiver(" + wire + ", 3)", x.receiver(wire, 3), -5);
            due.is("1: receiver(" + wire + ", 4)", x.receiver(wire, 4), 15);
        }
        due.is("1: undo()", x.undo(), -5);
        due.is("1: restore()", x.restore(), -4);
        due.is("1: fault()", x.fault(), 0);
        due.is("1: senderOf(0, 0)", x.senderOf(0, 0), -1);
        due.is("1: machineOf(0, 0)", x.machineOf(0, 0), -1);
        due.is("1: lampOf(0, 0)", x.lampOf(0, 0), -1);
        MainsWords other = new MainsWords();
        other.sender(0, 9);
        due.is("1: objects share nothing", x.count(1), 0);
    }

    private static void senders() {
        MainsWords x = new MainsWords();
        due.is("2: wire -1", x.sender(-1, 0), -1);
        due.is("2: wire 6", x.sender(6, 10), -1);
        due.is("2: strength 0", x.sender(0, 0), -2);
        due.is("2: strength 10", x.sender(5, 10), -2);
        due.is("2: no wire as low as this", x.sender(Integer.MIN_VALUE, 5), -1);
        due.is("2: no strength as high as this", x.sender(0, Integer.MAX_VALUE), -2);
        due.is("2: nothing was added", x.count(1), 0);
        due.is("2: first", x.sender(0, 1), 0);
        due.is("2: second", x.sender(5, 9), 1);
        due.is("2: wire of the first", x.senderOf(0, 0), 0);
        due.is("2: strength of the first", x.senderOf(0, 1), 1);
        due.is("2: wire of the second", x.senderOf(1, 0), 5);
        due.is("2: strength of the second", x.senderOf(1, 1), 9);
        due.is("2: third", x.sender(2, 4), 2);
        due.is("2: fourth", x.sender(3, 4), 3);
        due.is("2: fifth", x.sender(4, 4), 4);
        due.is("2: sixth", x.sender(4, 4), -3);
        due.is("2: the wire is looked at before the room", x.sender(6, 4), -1);
        due.is("2: the strength is looked at before the room", x.sender(4, 10), -2);
        x.say(3, 31);
        x.pass(3);
        x.remove(0, 3);
        x.remove(0, 1);
        due.is("2: the least free number", x.sender(0, 5), 1);
        due.is("2: the next free number", x.sender(0, 5), 3);
        due.is("2: a new sender has no words", x.senderOf(3, 2), 0);
        due.is("2: a new sender has no first word", x.queued(3, 0), -5);
        due.is("2: a new sender rests", x.senderOf(3, 3), -5);
        due.is("2: a new sender has no pause", x.senderOf(3, 5), 0);
    }

    private static void machines() {
        MainsWords x = new MainsWords();
        due.is("3: wire -1", x.machine(-1, 0, 0), -1);
        due.is("3: wire 6", x.machine(6, 1, 2), -1);
        due.is("3: strength 0", x.machine(0, 0, 2), -2);
        due.is("3: strength 10", x.machine(0, 10, 2), -2);
        due.is("3: period 1", x.machine(0, 1, 1), -2);
        due.is("3: period 21", x.machine(0, 1, 21), -2);
        due.is("3: nothing was added", x.count(2), 0);
        due.is("3: first", x.machine(0, 1, 2), 0);
        due.is("3: second", x.machine(5, 9, 20), 1);
        due.is("3: third", x.machine(1, 3, 7), 2);
        due.is("3: fourth", x.machine(1, 3, 7), 3);
        due.is("3: fifth", x.machine(1, 3, 7), -3);
        due.is("3: the wire is looked at before the room", x.machine(6, 3, 7), -1);
        due.is("3: the period is looked at before the room", x.machine(1, 3, 0), -2);
        due.is("3: it runs at first", x.machineOf(1, 3), 1);
        x.run(2, false);
        due.is("3: remove(1, 2)", x.remove(1, 2), 1);
        due.is("3: the least free number", x.machine(4, 2, 3), 2);
        due.is("3: a new machine runs again", x.machineOf(2, 3), 1);
        due.is("3: its wire", x.machineOf(2, 0), 4);
        due.is("3: its strength", x.machineOf(2, 1), 2);
        due.is("3: its period", x.machineOf(2, 2), 3);
    }

    private static void lamps() {
        MainsWords x = new MainsWords();
        due.is("4: wire -1", x.lamp(-1, 9, 9), -1);
        due.is("4: wire 6", x.lamp(6, 0, 0), -1);
        due.is("4: letter -1", x.lamp(0, -1, 0), -2);
        due.is("4: letter 4", x.lamp(0, 4, 0), -2);
        due.is("4: unit -1", x.lamp(0, 0, -1), -2);
        due.is("4: unit 4", x.lamp(0, 0, 4), -2);
        due.is("4: nothing was added", x.count(3), 0);
        for (int number = 0; number < 8; number++) {
            due.is("4: lamp " + number, x.lamp(number % 6, number % 4, 3 - number % 4), number);
        }
        due.is("4: ninth", x.lamp(0, 0, 0), -3);
        due.is("4: the wire is looked at before the room", x.lamp(6, 0, 0), -1);
        due.is("4: the letter is looked at before the room", x.lamp(0, 4, 0), -2);
        due.is("4: the unit is looked at before the room", x.lamp(0, 0, 4), -2);
        due.is("4: wire", x.lampOf(7, 0), 1);
        due.is("4: letter", x.lampOf(7, 1), 3);
        due.is("4: unit", x.lampOf(7, 2), 0);
        due.is("4: level", x.lampOf(7, 3), 0);
        due.is("4: selected", x.lampOf(7, 4), 0);
        x.sender(0, 9);
        x.say(0, 3);
        x.say(0, 4);
        x.pass(68);
        due.is("4: lamp 0 is on", x.lampOf(0, 3), 9);
        x.remove(2, 5);
        x.remove(2, 0);
        due.is("4: the least free number", x.lamp(0, 0, 3), 0);
        due.is("4: a new lamp has the level 0", x.lampOf(0, 3), 0);
        due.is("4: a new lamp is not selected", x.lampOf(0, 4), 0);
        due.is("4: the next free number", x.lamp(2, 0, 3), 5);
    }

    private static void removing() {
        MainsWords x = new MainsWords();
        x.sender(1, 9);
        x.machine(2, 9, 20);
        x.lamp(3, 0, 0);
        due.is("5: kind -1", x.remove(-1, 0), -2);
        due.is("5: kind 3", x.remove(3, 0), -2);
        due.is("5: the kind is looked at first", x.remove(3, 9), -2);
        due.is("5: sender -1", x.remove(0, -1), -1);
        due.is("5: sender 1", x.remove(0, 1), -1);
        due.is("5: sender 5", x.remove(0, 5), -1);
        due.is("5: machine 4", x.remove(1, 4), -1);
        due.is("5: lamp 8", x.remove(2, 8), -1);
        due.is("5: lamp as high as this", x.remove(2, Integer.MAX_VALUE), -1);
        x.say(0, 5);
        x.pass(2);
        due.is("5: it speaks", x.count(4), 1);
        due.is("5: sender 0", x.remove(0, 0), 1);
        due.is("5: no sender is left", x.count(1), 0);
        due.is("5: none speaks", x.count(4), 0);
        due.is("5: its words are gone", x.count(5), 0);
        due.is("5: all is silent", x.silentIn(), 0);
        due.is("5: it is not there again", x.remove(0, 0), -1);
        due.is("5: it takes no words", x.say(0, 0), -1);
        due.is("5: machine 0", x.remove(1, 0), 2);
        due.is("5: no machine is left", x.count(2), 0);
        x.pass(99);
        due.is("5: it makes no noise", x.receiver(2, 1), 0);
        due.is("5: lamp 0", x.remove(2, 0), 3);
        due.is("5: no lamp is left", x.count(3), 0);
        due.is("5: lamp 0 is not there", x.lampOf(0, 3), -1);
    }

    private static void saying() {
        MainsWords x = new MainsWords();
        due.is("6: no sender", x.say(0, 0), -1);
        x.sender(0, 9);
        due.is("6: sender -1", x.say(-1, 40), -1);
        due.is("6: sender 5", x.say(5, 0), -1);
        due.is("6: word -1", x.say(0, -1), -2);
        due.is("6: word 32", x.say(0, 32), -2);
        due.is("6: no word yet", x.senderOf(0, 2), 0);
        int[] words = {31, 0, 17, 17, 4, 9};
        for (int i = 0; i < words.length; i++) {
            due.is("6: word " + i, x.say(0, words[i]), i + 1);
        }
        due.is("6: a seventh", x.say(0, 1), -3);
        due.is("6: the word is looked at before the room", x.say(0, 32), -2);
        for (int i = 0; i < words.length; i++) {
            due.is("6: the words stay in order", x.queued(0, i), words[i]);
        }
        x.set(3, 1);
        x.pass(17);
        due.is("6: the first word went first", x.queued(0, 0), 0);
        due.is("6: there is room again", x.say(0, 30), 6);
        due.is("6: it is the last one", x.queued(0, 5), 30);
    }

    private static void running() {
        MainsWords x = new MainsWords();
        due.is("7: no machine", x.run(0, true), -1);
        x.machine(0, 9, 2);
        due.is("7: machine -1", x.run(-1, true), -1);
        due.is("7: machine 4", x.run(4, false), -1);
        due.is("7: it ran", x.run(0, true), 1);
        due.is("7: it ran still", x.run(0, false), 1);
        due.is("7: it stands", x.machineOf(0, 3), 0);
        x.pass(1);
        due.is("7: it makes no noise", x.receiver(0, 1), 0);
        due.is("7: it stood", x.run(0, false), 0);
        due.is("7: it stood still", x.run(0, true), 0);
        x.pass(2);
        due.is("7: it makes noise at the time 2, not at 1", x.receiver(0, 1), 1);
    }

    private static void settings() {
        MainsWords x = new MainsWords();
        int[] least = {0, 0, 1, 1};
        int[] most = {9, 9, 9, 3};
        int[] first = {6, 5, 4, 2};
        due.is("8: setting -1", x.set(-1, 1), -1);
        due.is("8: setting 4", x.set(4, 99), -1);
        for (int setting = 0; setting < 4; setting++) {
            due.is("8: below the range of " + setting, x.set(setting, least[setting] - 1), -2);
            due.is("8: above the range of " + setting, x.set(setting, most[setting] + 1), -2);
            due.is("8: the least of " + setting, x.set(setting, least[setting]), first[setting]);
            due.is("8: the most of " + setting, x.set(setting, most[setting]), least[setting]);
            due.is("8: again " + setting, x.set(setting, most[setting]), most[setting]);
            due.is("8: count tells " + setting, x.count(7 + setting), most[setting]);
        }
    }

    private static void passing() {
        MainsWords x = new MainsWords();
        due.is("9: no beats", x.pass(0), -2);
        due.is("9: beats below 0", x.pass(-1), -2);
        due.is("9: 100 beats", x.pass(100), -2);
        due.is("9: the time is as it was", x.count(0), 0);
        due.is("9: 1 beat", x.pass(1), 0);
        due.is("9: 99 beats", x.pass(99), 0);
        due.is("9: the time", x.count(0), 100);
        x.sender(0, 9);
        x.sender(1, 9);
        x.set(0, 9);
        x.say(0, 8);
        x.say(0, 9);
        x.say(1, 16);
        due.is("9: the words of all receivers are counted", x.pass(14), 4);
        due.is("9: copies are not counted", x.pass(20), 0);
        due.is("9: the next word", x.pass(34), 2);
    }
}
