/** Promises 17 to 25: the queries, their ranges, and that they change nothing. */
public final class QueryTest {
    private static final Due due = new Due("QueryTest");

    public static void main(String[] args) {
        ofSenders();
        ofQueues();
        ofMachines();
        ofLamps();
        ofReceivers();
        frames();
        losses();
        counts();
        totals();
        due.end();
    }

    private static void ofSenders() {
        MainsWords x = new MainsWords();
        due.is("17: no sender", x.senderOf(0, 0), -1);
        due.is("17: the sender is looked at first", x.senderOf(0, 7), -1);
        x.sender(2, 7);
        due.is("17: sender -1", x.senderOf(-1, 0), -1);
        due.is("17: sender 5", x.senderOf(5, 0), -1);
        due.is("17: what -1", x.senderOf(0, -1), -2);
        due.is("17: what 7", x.senderOf(0, 7), -2);
        int[] atFirst = {2, 7, 0, -5, -5, 0, -5};
        askSender(x, atFirst);
        x.say(0, 10);
        x.say(0, 11);
        askSender(x, new int[] {2, 7, 2, -5, -5, 0, -5});
        x.pass(1);
        askSender(x, new int[] {2, 7, 2, 1, 0, 0, 1});
        x.pass(2);
        askSender(x, new int[] {2, 7, 2, 3, 0, 0, 0});
        x.pass(10);
        askSender(x, new int[] {2, 7, 2, 13, 0, 0, 1});
        x.pass(1);
        askSender(x, new int[] {2, 7, 2, 14, 0, 0, 0});
        x.pass(3);
        askSender(x, new int[] {2, 7, 2, 0, 1, 0, 1});
        x.pass(17);
        askSender(x, new int[] {2, 7, 1, -5, -5, 0, -5});
        x.machine(2, 9, 9);
        x.pass(12);
        askSender(x, new int[] {2, 7, 1, -5, -5, 3, -5});
    }

    private static void askSender(MainsWords x, int[] answers) {
        for (int what = 0; what < answers.length; what++) {
            due.is("17: what " + what + " at " + x.count(0), x.senderOf(0, what), answers[what]);
        }
    }

    private static void ofQueues() {
        MainsWords x = new MainsWords();
        due.is("18: the sender is looked at first", x.queued(0, -1), -1);
        x.sender(0, 9);
        x.say(0, 31);
        x.say(0, 0);
        due.is("18: place -1", x.queued(0, -1), -2);
        due.is("18: a place as low as this", x.queued(0, Integer.MIN_VALUE), -2);
        due.is("18: place 0", x.queued(0, 0), 31);
        due.is("18: place 1", x.queued(0, 1), 0);
        due.is("18: place 2", x.queued(0, 2), -5);
        due.is("18: place 6", x.queued(0, 6), -5);
        due.is("18: a place as high as this", x.queued(0, Integer.MAX_VALUE), -5);
        due.is("18: sender 5", x.queued(5, 0), -1);
        due.is("18: sender -1", x.queued(-1, 0), -1);
        x.pass(34);
        due.is("18: a spoken word is gone", x.queued(0, 0), 0);
        due.is("18: no word behind", x.queued(0, 1), -5);
    }

    private static void ofMachines() {
        MainsWords x = new MainsWords();
        due.is("19: the machine is looked at first", x.machineOf(0, 4), -1);
        x.machine(5, 8, 20);
        due.is("19: machine -1", x.machineOf(-1, 0), -1);
        due.is("19: machine 4", x.machineOf(4, 0), -1);
        due.is("19: what -1", x.machineOf(0, -1), -2);
        due.is("19: what 4", x.machineOf(0, 4), -2);
        due.is("19: wire", x.machineOf(0, 0), 5);
        due.is("19: strength", x.machineOf(0, 1), 8);
        due.is("19: period", x.machineOf(0, 2), 20);
        due.is("19: it runs", x.machineOf(0, 3), 1);
        x.run(0, false);
        due.is("19: it stands", x.machineOf(0, 3), 0);
    }

    private static void ofLamps() {
        MainsWords x = new MainsWords();
        due.is("20: the lamp is looked at first", x.lampOf(0, 5), -1);
        x.lamp(4, 3, 2);
        due.is("20: lamp -1", x.lampOf(-1, 0), -1);
        due.is("20: lamp 8", x.lampOf(8, 0), -1);
        due.is("20: what -1", x.lampOf(0, -1), -2);
        due.is("20: what 5", x.lampOf(0, 5), -2);
        int[] atFirst = {4, 3, 2, 0, 0};
        for (int what = 0; what < 5; what++) {
            due.is("20: what " + what, x.lampOf(0, what), atFirst[what]);
        }
        x.sender(4, 9);
        x.say(0, 26);
        x.say(0, 30);
        x.pass(68);
        due.is("20: level", x.lampOf(0, 3), 1);
        due.is("24: a level of 1 is above 0", x.count(6), 1);
        due.is("20: selected", x.lampOf(0, 4), 1);
    }

    private static void ofReceivers() {
        MainsWords x = new MainsWords();
        due.is("21: wire -1", x.receiver(-1, 5), -1);
        due.is("21: wire 6", x.receiver(6, 0), -1);
        due.is("21: what -1", x.receiver(0, -1), -2);
        due.is("21: what 5", x.receiver(5, 5), -2);
        x.sender(1, 9);
        x.say(0, 20);
        x.pass(9);
        int[] reading = {5, -5, -5, -5, 15};
        askReceiver(x, reading);
        x.pass(5);
        askReceiver(x, new int[] {-5, 0, 20, 1, 11});
        x.pass(3);
        askReceiver(x, new int[] {-5, 0, 20, 4, 11});
        x.pass(3);
        askReceiver(x, new int[] {-5, 7, 20, 7, 11});
        x.pass(14);
        askReceiver(x, new int[] {-5, 0, 20, 4, 11});
        x.pass(99);
        askReceiver(x, new int[] {-5, 0, 20, 103, 11});
        x.say(0, 18);
        x.pass(40);
        askReceiver(x, new int[] {-5, 0, 18, 10, 15});
    }

    private static void askReceiver(MainsWords x, int[] answers) {
        for (int what = 0; what < answers.length; what++) {
            due.is("21: what " + what + " at " + x.count(0), x.receiver(1, what), answers[what]);
        }
    }

    private static void frames() {
        MainsWords x = new MainsWords();
        due.is("22: word -1", x.frame(-1, 0), -2);
        due.is("22: word 32", x.frame(32, 0), -2);
        due.is("22: index -1", x.frame(0, -1), -2);
        due.is("22: index 14", x.frame(0, 14), -2);
        Object[][] rows = {
            {0, "11100101010101"}, {31, "11101010101010"}, {1, "11100101010110"}, {16, "11101001010101"},
            {22, "11101001101001"}, {9, "11100110010110"}
        };
        for (Object[] row : rows) {
            int word = (Integer) row[0];
            StringBuilder bits = new StringBuilder();
            for (int index = 0; index < 14; index++) {
                bits.append(x.frame(word, index));
            }
            due.is("22: frame of " + word, bits.toString(), (String) row[1]);
        }
    }

    private static void losses() {
        MainsWords x = new MainsWords();
        x.set(0, 7);
        x.set(1, 2);
        int[][] rows = {
            {0, 7, 7, 2, 9, 9}, {7, 0, 7, 9, 2, 9}, {7, 7, 0, 9, 9, 2},
            {2, 9, 9, 0, 7, 7}, {9, 2, 9, 7, 0, 7}, {9, 9, 2, 7, 7, 0}
        };
        for (int wire = 0; wire < 6; wire++) {
            for (int other = 0; other < 6; other++) {
                due.is("23: loss(" + wire + ", " + other + ")", x.loss(wire, other), rows[wire][other]);
            }
        }
        due.is("23: wire -1", x.loss(-1, 0), -1);
        due.is("23: wire 6", x.loss(6, 0), -1);
        due.is("23: other -1", x.loss(0, -1), -1);
        due.is("23: other 6", x.loss(0, 6), -1);
        due.is("23: at first", new MainsWords().loss(2, 3), 11);
    }

    private static void counts() {
        MainsWords x = new MainsWords();
        due.is("24: what -1", x.count(-1), -2);
        due.is("24: what 13", x.count(13), -2);
        x.sender(0, 9);
        x.sender(1, 9);
        x.sender(2, 9);
        x.machine(5, 1, 9);
        x.machine(5, 1, 9);
        x.lamp(0, 0, 0);
        x.lamp(3, 0, 0);
        x.lamp(1, 1, 1);
        x.lamp(1, 1, 2);
        x.set(0, 9);
        x.set(1, 3);
        x.set(2, 5);
        x.set(3, 1);
        Calls.type(x, "0:A0A+A^,1:B0B0");
        x.perform();
        x.pass(40);
        int[] answers = {40, 3, 2, 4, 1, 1, 2, 9, 3, 5, 1, 4, 15};
        for (int what = 0; what < answers.length; what++) {
            due.is("24: what " + what, x.count(what), answers[what]);
        }
    }

    private static void totals() {
        MainsWords x = new MainsWords();
        due.is("25: what -1", x.total(-1), -2);
        due.is("25: what 5", x.total(5), -2);
        x.sender(0, 4);
        x.sender(0, 4);
        x.say(0, 0);
        x.say(1, 1);
        x.pass(65);
        // Sender 0 is disturbed at the time 12, begins at 16 behind the told word, and is disturbed at 19.
        int[] answers = {2, 2, 2, 2, 0};
        for (int what = 0; what < answers.length; what++) {
            due.is("25: what " + what, x.total(what), answers[what]);
        }
        x.say(0, 0);
        x.pass(6);
        x.remove(0, 0);
        x.pass(9);
        due.is("25: a bad word", x.total(4), 1);
        due.is("25: a removed sender's word is not finished", x.total(0), 2);
    }
}
