/** Calls that the tests make again and again. */
final class Calls {
    private Calls() {
    }

    static void type(MainsWords x, String text) {
        x.clearText();
        for (char sign : text.toCharArray()) {
            x.append(sign);
        }
    }

    /** Lets any number of beats pass; returns the new words of all of them. */
    static int pass(MainsWords x, int beats) {
        int told = 0;
        for (int left = beats; left > 0; left -= 99) {
            told += x.pass(Math.min(left, 99));
        }
        return told;
    }

    /** Fills the six places of a sender's queue. */
    static void fillQueue(MainsWords x, int sender) {
        for (int i = 0; i < 6; i++) {
            x.say(sender, i);
        }
    }

    /** The whole state, as the queries tell it; not the history, the text and the snapshot. */
    static String state(MainsWords x) {
        StringBuilder seen = new StringBuilder();
        for (int number = 0; number < 8; number++) {
            for (int what = 0; what < 7; what++) {
                seen.append(x.senderOf(number, what)).append(' ');
                seen.append(x.queued(number, what)).append(' ');
                seen.append(x.machineOf(number, what)).append(' ');
                seen.append(x.lampOf(number, what)).append(' ');
                seen.append(x.receiver(number, what)).append(' ');
            }
            seen.append('\n');
        }
        for (int what = 0; what < 11; what++) {
            seen.append(x.count(what)).append(' ').append(x.total(what)).append(' ');
        }
        return seen.append(x.freshness()).toString();
    }

    /** The state, and what stands beside it. */
    static String all(MainsWords x) {
        return state(x) + " history " + x.count(11) + " text " + x.count(12) + " fault " + x.fault();
    }
}
