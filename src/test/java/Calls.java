/** Calls that the tests make again and again. */
final class Calls {
    private Calls() {
    }

    static void type(MainsWords x, String text) {
        x.clearText();
        for (char sign : text.toCharArray()) {
            x.append(sign);
        }
    }

    /** Lets any number of beats pass; returns the new words of all of them. */
    static int pass(MainsWords x, int beats) {
        int told = 0;
        for (int left = beats; left > 0; left -= 99) {
            told += x.pass(Math.min(left, 99));
        }
        return told;
    }

    /** Fills the six places of a sender's queue. */
    static void fillQueue(MainsWords x, int sender) {
        for (int i = 0; i < 6; i++) {
            x.say(sender, i);
        }
    }
}
