import java.util.Random;

/** Promises 1 to 28: long runs of calls, sound and wild ones, whose answers are the same as the model's. */
public final class ModelTest {
    private static final int RUNS = 1000;
    private static final int CALLS = 512;
    /** What is counted at the end of a run, and the most calls that are made at once in it. */
    private static final int LAST_CALLS = 4;
    private static final int MOST_AT_ONCE = 80;
    private static final String[] TEXTS = {
        "0:A0A+", "1:A1A^,t34,2:B2", "t99,t99", "3:C3C^C^,4:D!", "0:A0,5", "t0", "0:A0,t40,0:A1,t1,0:A^",
        "4:B0B1B2B3B+B-B!", "2:D3D+,t60,2:D!,1:C0", "0:A+,1:B+,2:C+,3:D+,4:A-,t70"
    };
    private static final Due due = new Due("ModelTest");
    private static int told = 0;
    private static int disturbed = 0;
    private static int bad = 0;
    private static int lit = 0;

    private final Random random;
    private final MainsWords x = new MainsWords();
    private final Model model = new Model();
    private final int wires;

    private ModelTest(int run) {
        random = new Random(run);
        wires = 1 + random.nextInt(6);
    }

    public static void main(String[] args) {
        for (int run = 0; run < RUNS; run++) {
            new ModelTest(run).go(run);
        }
        due.is("words were told", Math.min(told, 20000), 20000);
        due.is("senders were disturbed", Math.min(disturbed, 10000), 10000);
        due.is("words were bad", Math.min(bad, 10000), 10000);
        due.is("lamps were lit", Math.min(lit, 500), 500);
        due.end();
    }

    private void go(int run) {
        int calls = 0;
        while (calls < CALLS - LAST_CALLS) {
            boolean isNearTheEnd = calls + MOST_AT_ONCE > CALLS - LAST_CALLS;
            int kind = random.nextInt(100);
            String call = "run " + run + ", call " + calls;
            if (kind < 20) {
                // Half of the runs have few actions of these kinds, so that their state grows old.
                act(call, run % 2 == 0 || kind == 0 ? random.nextInt(11) : random.nextInt(5));
            } else if (kind < 45) {
                pass(call);
            } else if (kind < 75) {
                say(call);
            } else if (kind == 75 && !isNearTheEnd) {
                calls += write(call) - 1;
            } else if (kind == 76 && !isNearTheEnd) {
                calls += askAll(call) - 1;
            } else {
                ask(call, 28 + random.nextInt(12));
            }
            calls++;
        }
        due.is("run " + run + ": calls", calls, CALLS - LAST_CALLS);
        told += x.total(2);
        disturbed += x.total(1);
        bad += x.total(4);
        lit += x.count(6);
    }

    /** Mostly from 0 to below the bound, now and then at its edges or far beyond. */
    private int some(int bound) {
        int wild = random.nextInt(60);
        switch (wild) {
            case 0:
                return -1;
            case 1:
                return bound;
            case 2:
                return random.nextInt();
            case 3:
                return random.nextBoolean() ? Integer.MIN_VALUE : Integer.MAX_VALUE;
            default:
                return random.nextInt(bound);
        }
    }

    private int someWire() {
        return random.nextInt(4) == 0 ? some(6) : random.nextInt(wires);
    }

    private int someStrength() {
        return random.nextInt(3) == 0 ? some(11) : 6 + random.nextInt(4);
    }

    private void act(String call, int kind) {
        int a;
        int b;
        int c;
        switch (kind) {
            case 0:
            case 1:
                a = someWire();
                b = someStrength();
                due.is(call + ": sender(" + a + ", " + b + ")", x.sender(a, b), model.sender(a, b));
                break;
            case 2:
                a = someWire();
                b = someStrength();
                c = random.nextInt(3) == 0 ? some(23) : 14 + random.nextInt(7);
                due.is(call + ": machine(" + a + ", " + b + ", " + c + ")", x.machine(a, b, c), model.machine(a, b, c));
                break;
            case 3:
            case 4:
                a = someWire();
                b = random.nextInt(2) == 0 ? 0 : some(4);
                c = some(4);
                due.is(call + ": lamp(" + a + ", " + b + ", " + c + ")", x.lamp(a, b, c), model.lamp(a, b, c));
                break;
            case 5:
                a = random.nextInt(2) == 0 ? 1 : some(3);
                b = some(8);
                due.is(call + ": remove(" + a + ", " + b + ")", x.remove(a, b), model.remove(a, b));
                break;
            case 6:
                a = random.nextInt(3) == 0 ? some(4) : 0;
                boolean isOn = random.nextInt(3) == 0;
                due.is(call + ": run(" + a + ", " + isOn + ")", x.run(a, isOn), model.run(a, isOn));
                break;
            case 7:
                a = random.nextInt(2) == 0 ? 3 : some(4);
                b = a == 2 && random.nextInt(3) > 0 ? 3 : some(10);
                due.is(call + ": set(" + a + ", " + b + ")", x.set(a, b), model.set(a, b));
                break;
            case 8:
                due.is(call + ": undo()", x.undo(), model.undo());
                break;
            case 9:
                due.is(call + ": save()", x.save(), model.save());
                break;
            case 10:
                due.is(call + ": restore()", x.restore(), model.restore());
                break;
            default:
                throw new IllegalStateException("no such action");
        }
    }

    private void pass(String call) {
        int beats = random.nextInt(2) == 0 ? 1 + random.nextInt(20) : some(101);
        due.is(call + ": pass(" + beats + ")", x.pass(beats), model.pass(beats));
    }

    private void say(String call) {
        int number = some(5);
        int word = random.nextInt(3) > 0 ? random.nextInt(8) : some(32);
        due.is(call + ": say(" + number + ", " + word + ")", x.say(number, word), model.say(number, word));
    }

    /** Writes a text and carries it out; returns how many calls it made. */
    private int write(String call) {
        int calls = 0;
        if (random.nextInt(3) > 0) {
            due.is(call + ": clearText()", x.clearText(), model.clearText());
            calls++;
        }
        String text = TEXTS[random.nextInt(TEXTS.length)];
        for (char sign : text.toCharArray()) {
            int put = random.nextInt(60) == 0 ? some(128) : sign;
            due.is(call + ": append(" + put + ")", x.append(put), model.append(put));
            calls++;
        }
        if (random.nextInt(3) == 0) {
            due.is(call + ": append(44)", x.append(44), model.append(44));
            calls++;
        }
        due.is(call + ": fault() of " + text, x.fault(), model.fault());
        due.is(call + ": perform() of " + text, x.perform(), model.perform());
        return calls + 2;
    }

    private void ask(String call, int kind) {
        int a = some(8);
        int b = some(8);
        switch (kind) {
            case 28:
                due.is(call + ": senderOf(" + a + ", " + b + ")", x.senderOf(a, b), model.senderOf(a, b));
                break;
            case 29:
                due.is(call + ": queued(" + a + ", " + b + ")", x.queued(a, b), model.queued(a, b));
                break;
            case 30:
                due.is(call + ": machineOf(" + a + ", " + b + ")", x.machineOf(a, b), model.machineOf(a, b));
                break;
            case 31:
                due.is(call + ": lampOf(" + a + ", " + b + ")", x.lampOf(a, b), model.lampOf(a, b));
                break;
            case 32:
                due.is(call + ": receiver(" + a + ", " + b + ")", x.receiver(a, b), model.receiver(a, b));
                break;
            case 33:
                int word = some(32);
                int index = some(14);
                due.is(call + ": frame(" + word + ", " + index + ")", x.frame(word, index), model.frame(word, index));
                break;
            case 34:
                due.is(call + ": loss(" + a + ", " + b + ")", x.loss(a, b), model.loss(a, b));
                break;
            case 35:
                int what = some(13);
                due.is(call + ": count(" + what + ")", x.count(what), model.count(what));
                break;
            case 36:
                due.is(call + ": total(" + a + ")", x.total(a), model.total(a));
                break;
            case 37:
                due.is(call + ": freshness()", x.freshness(), model.freshness());
                break;
            case 38:
                due.is(call + ": silentIn()", x.silentIn(), model.silentIn());
                break;
            default:
                int beats = some(401);
                due.is(call + ": levelIn(" + a + ", " + beats + ")", x.levelIn(a, beats), model.levelIn(a, beats));
                break;
        }
    }

    /** The queries of one thing of each kind; returns how many. */
    private int askAll(String call) {
        int number = random.nextInt(5);
        for (int what = 0; what < 7; what++) {
            due.is(call + ": senderOf " + what, x.senderOf(number, what), model.senderOf(number, what));
            due.is(call + ": queued " + what, x.queued(number, what), model.queued(number, what));
            due.is(call + ": lampOf " + what, x.lampOf(number, what), model.lampOf(number, what));
            due.is(call + ": receiver " + what, x.receiver(number, what), model.receiver(number, what));
            due.is(call + ": total " + what, x.total(what), model.total(what));
            due.is(call + ": count " + what, x.count(what), model.count(what));
        }
        return 42;
    }
}
