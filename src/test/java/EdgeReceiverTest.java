/** The boundary cases of a receiver, to which the bits are given one by one. */
public final class EdgeReceiverTest {
    private static final Edges edges = new Edges("EdgeReceiverTest");
    private static final int FIRST_TIME = 2;
    private static final int LAST_TIME = 22;
    private static final String MARK = "1110";
    private static final String LISTENS = "receiver(0, 1)";
    private static final String READS = "receiver(0, 0)";
    private static final String TOLD = "receiver(0, 2)";
    private static final String BAD = "total(4)";

    public static void main(String[] args) {
        atFirst();
        latestFour();
        theMark();
        bitsRead();
        equalPairs();
        oddNumbers();
        tenBits();
        listensBehindAWord();
        listensBehindABadWord();
        noBitsSoFar();
        edges.end();
    }

    /** The wire 0 has heard these bits: for each 1 there is a machine that is removed behind its noise. */
    private static Run heard(String bits) {
        Run run = Run.of("pass(" + FIRST_TIME + ")");
        for (int i = 0; i < bits.length(); i++) {
            int time = FIRST_TIME + i;
            if (time > LAST_TIME) {
                throw new IllegalStateException("no machine makes noise at the time " + time);
            }
            run = bits.charAt(i) == '0' ? run.and("pass(1)")
                : run.and("machine(0, 4, " + periodAt(time) + ")", "pass(1)", "remove(1, 0)");
        }
        return run;
    }

    private static int periodAt(int time) {
        int period = 20;
        while (time % period != 0) {
            period--;
        }
        return period;
    }

    private static void atFirst() {
        edges.sentence("It listens (at first), with the latest four bits that it has heard (0, 0, 0, 0 at first)");
        for (int wire = 0; wire < 6; wire++) {
            edges.is(Run.of(), Edges.with("receiver(#, 0)", wire), Edges.NONE);
            edges.is(Run.of(), Edges.with("receiver(#, 1)", wire), 0);
        }
        edges.sentence("the word that it told last (none at first), the time at which it told it, and for each letter "
            + "whether it is open (it is at first)");
        for (int wire = 0; wire < 6; wire++) {
            edges.is(Run.of(), Edges.with("receiver(#, 2)", wire), Edges.NONE);
            edges.is(Run.of(), Edges.with("receiver(#, 3)", wire), Edges.NONE);
            edges.is(Run.of(), Edges.with("receiver(#, 4)", wire), 15);
        }
        edges.is(Run.of("pass(99)"), "receiver(0, 3)", Edges.NONE);
    }

    private static void latestFour() {
        edges.sentence("the bit becomes the latest one");
        edges.is(heard("1"), LISTENS, 1);
        edges.is(heard("1000"), LISTENS, 8);
        edges.is(heard("10000"), LISTENS, 0);
        edges.is(heard("1111"), LISTENS, 15);
        edges.is(heard("11111"), LISTENS, 15);
        edges.is(heard("0111"), LISTENS, 7);
        edges.is(heard("10111"), LISTENS, 7);
    }

    private static void theMark() {
        edges.sentence("if the latest four bits are 1, 1, 1, 0 then, it reads from now on, with no bits so far");
        edges.is(heard("111"), LISTENS, 7);
        edges.is(heard("111"), READS, Edges.NONE);
        for (String bits : new String[] {"1110", "11110", "111110", "01110", "10111110", "1101110"}) {
            edges.is(heard(bits), READS, 0);
            edges.is(heard(bits), LISTENS, Edges.NONE);
        }
        String[] others = {"0110", "1010", "1100", "1111", "0111", "1000", "1101", "0001"};
        int[] latest = {6, 10, 12, 15, 7, 8, 13, 1};
        for (int i = 0; i < others.length; i++) {
            edges.is(heard(others[i]), READS, Edges.NONE);
            edges.is(heard(others[i]), LISTENS, latest[i]);
        }
    }

    private static void bitsRead() {
        edges.sentence("If it reads: the bit is added to those that it has read.");
        String good = "1001101001";
        for (int bits = 0; bits < 10; bits++) {
            edges.is(heard(MARK + good.substring(0, bits)), READS, bits);
            edges.is(heard(MARK + good.substring(0, bits)), LISTENS, Edges.NONE);
        }
        edges.is(heard(MARK + good), READS, Edges.NONE);
    }

    private static void equalPairs() {
        edges.sentence("If these are an even number, and the last two of them are equal, the word is bad");
        String good = "10011010";
        for (int pairs = 0; pairs <= 4; pairs++) {
            String begun = MARK + good.substring(0, 2 * pairs);
            for (String pair : new String[] {"00", "11"}) {
                edges.is(heard(begun + pair.charAt(0)), BAD, 0);
                edges.is(heard(begun + pair), BAD, 1);
                edges.is(heard(begun + pair), LISTENS, 0);
                edges.is(heard(begun + pair), TOLD, Edges.NONE);
                edges.is(heard(begun + pair), "total(2)", 0);
            }
            for (String pair : new String[] {"01", "10"}) {
                edges.is(heard(begun + pair), BAD, 0);
                edges.is(heard(begun + pair), READS, pairs < 4 ? 2 * pairs + 2 : Edges.NONE);
            }
        }
    }

    private static void oddNumbers() {
        edges.sentence("an even number");
        edges.is(heard(MARK + "100"), BAD, 0);
        edges.is(heard(MARK + "100"), READS, 3);
        edges.is(heard(MARK + "011"), BAD, 0);
        edges.is(heard(MARK + "011"), READS, 3);
        edges.is(heard(MARK + "011001100"), BAD, 0);
        edges.is(heard(MARK + "011001100"), READS, 9);
    }

    private static void tenBits() {
        edges.sentence("If these are ten (and no two of a pair were equal), the receiver tells the word whose bits are "
            + "the first ones of the pairs");
        String[] bits = {"0101010101", "1010101010", "1001010101", "0101010110", "0110101010", "1010101001"};
        int[] words = {0, 31, 16, 1, 15, 30};
        for (int i = 0; i < bits.length; i++) {
            edges.is(heard(MARK + bits[i].substring(0, 9)), TOLD, Edges.NONE);
            edges.is(heard(MARK + bits[i]), TOLD, words[i]);
            edges.is(heard(MARK + bits[i]), "receiver(0, 3)", 1);
            edges.is(heard(MARK + bits[i]), "total(2)", 1);
            edges.is(heard(MARK + bits[i]), BAD, 0);
        }
    }

    private static void listensBehindAWord() {
        edges.sentence("it listens then, as if it had heard 0, 0, 0, 0");
        String word = MARK + "1010100101";
        edges.is(heard(word), READS, Edges.NONE);
        edges.is(heard(word), LISTENS, 0);
        edges.is(heard(word + "110"), READS, Edges.NONE);
        edges.is(heard(word + "110"), LISTENS, 6);
        edges.is(heard(word + "1110"), READS, 0);
    }

    private static void listensBehindABadWord() {
        edges.sentence("the receiver listens, as if it had heard 0, 0, 0, 0");
        String bad = MARK + "11";
        edges.is(heard(bad), READS, Edges.NONE);
        edges.is(heard(bad), LISTENS, 0);
        edges.is(heard(bad + "10"), READS, Edges.NONE);
        edges.is(heard(bad + "10"), LISTENS, 2);
        edges.is(heard(bad + "110"), LISTENS, 6);
        edges.is(heard(bad + "1110"), READS, 0);
    }

    private static void noBitsSoFar() {
        edges.sentence("with no bits so far");
        String again = MARK + "11" + MARK;
        edges.is(heard(again), READS, 0);
        edges.is(heard(again + "1"), READS, 1);
        edges.is(heard(again + "1"), BAD, 1);
        edges.is(heard(again + "0101010101"), TOLD, 0);
        edges.is(heard(MARK + "00" + MARK + "1010101010"), TOLD, 31);
    }
}
