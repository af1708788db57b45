/** Promises 14 to 16: undo, save and restore. */
public final class HistoryTest {
    private static final Due due = new Due("HistoryTest");

    public static void main(String[] args) {
        undoing();
        oldestIsDropped();
        textAndSnapshotStay();
        saving();
        restoring();
        due.end();
    }

    private static void undoing() {
        MainsWords x = new MainsWords();
        due.is("14: an empty history", x.undo(), -5);
        x.sender(0, 9);
        x.say(0, 3);
        x.pass(5);
        due.is("14: two left", x.undo(), 2);
        due.is("14: the beats are undone", x.count(0), 0);
        due.is("14: the sender does not speak", x.count(4), 0);
        due.is("14: its receiver has heard nothing", x.receiver(0, 1), 0);
        due.is("14: one left", x.undo(), 1);
        due.is("14: the word is undone", x.count(5), 0);
        due.is("14: none left", x.undo(), 0);
        due.is("14: the sender is undone", x.count(1), 0);
        due.is("14: nothing more", x.undo(), -5);
        due.is("14: it is no action", x.count(11), 0);
    }

    private static void oldestIsDropped() {
        MainsWords x = new MainsWords();
        for (int beats = 1; beats <= 9; beats++) {
            x.pass(beats);
            due.is("14: at most 4 states", x.count(11), Math.min(beats, 4));
        }
        due.is("14: back to 36", x.undo(), 3);
        due.is("14: the time 36", x.count(0), 36);
        x.pass(50);
        due.is("14: a new one in its place", x.count(11), 4);
        int[] times = {36, 28, 21, 15};
        for (int i = 0; i < 4; i++) {
            due.is("14: states left", x.undo(), 3 - i);
            due.is("14: the time", x.count(0), times[i]);
        }
        due.is("14: the oldest ones are dropped", x.undo(), -5);
        due.is("14: nothing changes then", x.count(0), 15);
    }

    private static void textAndSnapshotStay() {
        MainsWords x = new MainsWords();
        x.pass(3);
        x.save();
        x.pass(4);
        Calls.type(x, "t7");
        x.undo();
        due.is("14: the text does not change", x.count(12), 2);
        due.is("14: nor does its fault", x.fault(), -5);
        x.undo();
        due.is("14: the time is 0", x.count(0), 0);
        due.is("14: the snapshot does not change", x.restore(), 3);
        Calls.type(x, "t77");
        x.restore();
        due.is("16: the text does not change", x.count(12), 3);
    }

    private static void saving() {
        MainsWords x = new MainsWords();
        x.sender(0, 9);
        x.say(0, 3);
        x.pass(90);
        due.is("15: it returns the time", x.save(), 90);
        due.is("15: it is no action", x.count(11), 3);
        due.is("15: it changes nothing", x.count(0), 90);
        x.pass(5);
        due.is("15: it returns the time of another", x.save(), 95);
        x.pass(9);
        due.is("15: that replaces the first one", x.restore(), 95);
        due.is("15: so the state is another", x.count(0), 95);
    }

    private static void restoring() {
        MainsWords x = new MainsWords();
        due.is("16: no snapshot", x.restore(), -4);
        due.is("16: that is no action", x.count(11), 0);
        x.save();
        x.sender(0, 9);
        x.say(0, 3);
        x.pass(50);
        due.is("16: the time of the snapshot", x.restore(), 0);
        due.is("16: no senders", x.count(1), 0);
        due.is("16: the totals are part of it", x.total(0) + x.total(2), 0);
        due.is("16: it is an action", x.count(11), 4);
        x.undo();
        due.is("16: it can be undone", x.count(0), 50);
        due.is("16: with its senders", x.count(1), 1);
        due.is("16: and with its totals", x.total(0), 1);
        due.is("16: the snapshot remains", x.restore(), 0);
        x.pass(1);
        due.is("16: what comes after does not change it", x.restore(), 0);
        due.is("16: nor its senders", x.count(1), 0);
        due.is("16: it is an action even if nothing changes", x.restore() + x.count(11), 4);
    }
}
