/** Promises 26 to 28: what would be, and how many told words were new. */
public final class AheadTest {
    private static final Due due = new Due("AheadTest");

    public static void main(String[] args) {
        silence();
        silenceThatNeverComes();
        levels();
        freshness();
        due.end();
    }

    private static void silence() {
        MainsWords x = new MainsWords();
        due.is("26: no sender", x.silentIn(), 0);
        x.sender(0, 9);
        due.is("26: no word", x.silentIn(), 0);
        x.say(0, 3);
        due.is("26: one word", x.silentIn(), 34);
        due.is("26: nothing is changed", x.count(0) + x.count(4), 0);
        due.is("26: it is no action", x.count(11), 2);
        Calls.fillQueue(x, 0);
        due.is("26: six words", x.silentIn(), 204);
        x.set(3, 3);
        due.is("26: six words three times", x.silentIn(), 306);
        for (int left = 306; left > 0; left -= 9) {
            due.is("26: it comes nearer", x.silentIn(), left);
            x.pass(9);
        }
        due.is("26: silent", x.silentIn(), 0);
        MainsWords y = new MainsWords();
        y.sender(0, 9);
        y.sender(0, 9);
        y.say(0, 0);
        y.say(1, 1);
        due.is("26: a disturbed one speaks later", y.silentIn(), 65);
        Calls.pass(y, 64);
        due.is("26: not yet", y.count(5), 1);
        y.pass(1);
        due.is("26: it is as was told", y.count(5), 0);
    }

    private static void silenceThatNeverComes() {
        MainsWords x = new MainsWords();
        x.sender(0, 9);
        x.machine(0, 9, 2);
        x.say(0, 0);
        due.is("26: noise without end", x.silentIn(), -5);
        x.remove(1, 0);
        due.is("26: without the machine", x.silentIn(), 34);
        due.is("26: nothing is changed", x.count(0), 0);
    }

    private static void levels() {
        MainsWords x = new MainsWords();
        due.is("27: the lamp is looked at first", x.levelIn(0, -1), -1);
        x.lamp(0, 0, 0);
        due.is("27: lamp -1", x.levelIn(-1, 0), -1);
        due.is("27: lamp 8", x.levelIn(8, 0), -1);
        due.is("27: beats -1", x.levelIn(0, -1), -2);
        due.is("27: beats 401", x.levelIn(0, 401), -2);
        due.is("27: beats 0", x.levelIn(0, 0), 0);
        due.is("27: beats 400", x.levelIn(0, 400), 0);
        x.sender(0, 9);
        x.say(0, 0);
        x.say(0, 6);
        x.say(0, 4);
        x.say(0, 5);
        Calls.fillQueue(x, 0);
        int[][] steps = {{0, 0}, {47, 0}, {48, 1}, {81, 1}, {82, 9}, {115, 9}, {116, 0}, {400, 0}};
        for (int[] step : steps) {
            due.is("27: level in " + step[0], x.levelIn(0, step[0]), step[1]);
        }
        x.pass(48);
        due.is("27: it is as was told", x.lampOf(0, 3), 1);
        due.is("27: from there", x.levelIn(0, 33), 1);
        due.is("27: and on", x.levelIn(0, 34), 9);
        x.pass(60);
        x.set(3, 3);
        x.remove(0, 0);
        due.is("27: without the sender it stays", x.levelIn(0, 400), 9);
    }

    private static void freshness() {
        MainsWords x = new MainsWords();
        due.is("28: nothing told", x.freshness(), 0.0f);
        x.sender(0, 4);
        x.set(3, 3);
        x.say(0, 9);
        x.pass(14);
        due.is("28: all new", x.freshness(), 1.0f);
        x.pass(17);
        due.is("28: a half", x.freshness(), 0.5f);
        x.pass(17);
        due.is("28: a third", x.freshness(), 1.0f / 3.0f);
        x.pass(3);
        x.set(3, 1);
        x.say(0, 10);
        x.pass(6);
        x.remove(0, 0);
        x.pass(9);
        due.is("28: bad words are in the sum", x.total(4), 1);
        due.is("28: a fourth", x.freshness(), 0.25f);
        MainsWords y = new MainsWords();
        y.machine(0, 4, 20);
        y.sender(0, 4);
        y.say(0, 9);
        Calls.pass(y, 99);
        due.is("28: of its totals", y.freshness(),
            (float) y.total(2) / (float) (y.total(2) + y.total(3) + y.total(4)));
        MainsWords z = new MainsWords();
        z.sender(0, 4);
        z.say(0, 9);
        z.pass(6);
        z.remove(0, 0);
        z.pass(9);
        due.is("28: only bad words", z.freshness(), 0.0f);
    }
}
