/** Promises 14 to 16: undo, save and restore. */
public final class HistoryTest {
    private static final Due due = new Due("HistoryTest");

    public static void main(String[] args) {
        undoing();
        oldestIsDropped();
        everyPartOfTheState();
        numbersGivenAgain();
        textAndSnapshotStay();
        saving();
        restoring();
        due.end();
    }

    private static MainsWords busy() {
        MainsWords x = new MainsWords();
        x.sender(0, 9);
        x.sender(4, 7);
        x.machine(1, 8, 5);
        x.lamp(0, 0, 0);
        x.lamp(3, 0, 1);
        Calls.type(x, "0:A0A1A+,1:C2D!,t70,t20,1:B^");
        x.perform();
        x.set(3, 3);
        return x;
    }

    private static void undoing() {
        MainsWords x = new MainsWords();
        due.is("14: an empty history", x.undo(), -5);
        x.sender(0, 9);
        x.say(0, 3);
        x.pass(5);
        due.is("14: two left", x.undo(), 2);
        due.is("14: the beats are undone", x.count(0), 0);
        due.is("14: the sender does not speak", x.count(4), 0);
        due.is("14: its receiver has heard nothing", x.receiver(0, 1), 0);
        due.is("14: one left", x.undo(), 1);
        due.is("14: the word is undone", x.count(5), 0);
        due.is("14: none left", x.undo(), 0);
        due.is("14: the sender is undone", x.count(1), 0);
        due.is("14: nothing more", x.undo(), -5);
        due.is("14: it is no action", x.count(11), 0);
    }

    private static void oldestIsDropped() {
        MainsWords x = new MainsWords();
        for (int beats = 1; beats <= 9; beats++) {
            x.pass(beats);
            due.is("14: at most 4 states", x.count(11), Math.min(beats, 4));
        }
        due.is("14: back to 36", x.undo(), 3);
        due.is("14: the time 36", x.count(0), 36);
        x.pass(50);
        due.is("14: a new one in its place", x.count(11), 4);
        int[] times = {36, 28, 21, 15};
        for (int i = 0; i < 4; i++) {
            due.is("14: states left", x.undo(), 3 - i);
            due.is("14: the time", x.count(0), times[i]);
        }
        due.is("14: the oldest ones are dropped", x.undo(), -5);
        due.is("14: nothing changes then", x.count(0), 15);
    }

    private static void everyPartOfTheState() {
        MainsWords x = busy();
        for (int beats = 1; beats <= 80; beats++) {
            String before = Calls.state(x);
            int silent = x.silentIn();
            x.pass(99);
            x.remove(0, 0);
            x.undo();
            x.undo();
            due.is("14: the state before, after " + beats, Calls.state(x), before);
            due.is("14: all goes on as before", x.silentIn(), silent);
            x.save();
            x.remove(0, 1);
            x.pass(37);
            x.restore();
            due.is("16: the state of the snapshot, after " + beats, Calls.state(x), before);
            due.is("16: all goes on as then", x.silentIn(), silent);
            x.pass(1);
        }
    }

    private static void numbersGivenAgain() {
        MainsWords x = new MainsWords();
        x.sender(0, 9);
        x.lamp(0, 0, 0);
        x.lamp(0, 0, 1);
        x.say(0, 1);
        x.pass(34);
        x.machine(0, 9, 7);
        x.say(0, 0);
        x.pass(9);
        due.is("a sender with a pause", x.senderOf(0, 5), 3);
        due.is("a lamp that is selected", x.lampOf(1, 4), 1);
        String before = Calls.state(x);
        x.save();
        x.remove(0, 0);
        due.is("2: another sender of the number", x.sender(3, 4), 0);
        due.is("2: it has no pause", x.senderOf(0, 5), 0);
        x.undo();
        x.undo();
        due.is("14: the first sender", Calls.state(x), before);
        x.remove(1, 0);
        due.is("3: another machine of the number", x.machine(4, 3, 20), 0);
        x.undo();
        x.undo();
        due.is("14: the first machine", Calls.state(x), before);
        x.remove(2, 1);
        due.is("4: another lamp of the number", x.lamp(5, 3, 2), 1);
        x.undo();
        x.undo();
        due.is("14: the first lamp", Calls.state(x), before);
        x.remove(0, 0);
        x.sender(3, 4);
        x.remove(1, 0);
        x.machine(4, 3, 20);
        x.remove(2, 1);
        x.lamp(5, 3, 2);
        x.restore();
        due.is("16: all the first ones", Calls.state(x), before);
    }

    private static void textAndSnapshotStay() {
        MainsWords x = new MainsWords();
        x.pass(3);
        x.save();
        x.pass(4);
        Calls.type(x, "t7");
        x.undo();
        due.is("14: the text does not change", x.count(12), 2);
        due.is("14: nor does its fault", x.fault(), -5);
        x.undo();
        due.is("14: the time is 0", x.count(0), 0);
        due.is("14: the snapshot does not change", x.restore(), 3);
        Calls.type(x, "t77");
        x.restore();
        due.is("16: the text does not change", x.count(12), 3);
    }

    private static void saving() {
        MainsWords x = busy();
        String before = Calls.all(x);
        due.is("15: it returns the time", x.save(), 90);
        due.is("15: it changes nothing, and is no action", Calls.all(x), before);
        String state = Calls.state(x);
        x.pass(5);
        due.is("15: it returns the time of another", x.save(), 95);
        x.pass(9);
        due.is("15: that replaces the first one", x.restore(), 95);
        due.is("15: so the state is another", Calls.state(x).equals(state) ? 1 : 0, 0);
    }

    private static void restoring() {
        MainsWords x = new MainsWords();
        due.is("16: no snapshot", x.restore(), -4);
        due.is("16: that is no action", x.count(11), 0);
        x.save();
        x.sender(0, 9);
        x.say(0, 3);
        x.pass(50);
        String before = Calls.state(x);
        due.is("16: the time of the snapshot", x.restore(), 0);
        due.is("16: no senders", x.count(1), 0);
        due.is("16: the totals are part of it", x.total(0) + x.total(2), 0);
        due.is("16: it is an action", x.count(11), 4);
        x.undo();
        due.is("16: it can be undone", Calls.state(x), before);
        due.is("16: the snapshot remains", x.restore(), 0);
        x.pass(1);
        due.is("16: what comes after does not change it", x.restore(), 0);
        due.is("16: nor its senders", x.count(1), 0);
        due.is("16: it is an action even if nothing changes", x.restore() + x.count(11), 4);
    }
}
