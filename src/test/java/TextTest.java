/** Promises 10 to 13: the text, its fault, and what it carries out. */
public final class TextTest {
    private static final Due due = new Due("TextTest");

    public static void main(String[] args) {
        appending();
        clearing();
        faults();
        everySignOfAPart();
        performing();
        performStops();
        performIsOneAction();
        due.end();
    }

    private static void appending() {
        MainsWords x = new MainsWords();
        due.is("10: 31", x.append(31), -2);
        due.is("10: 127", x.append(127), -2);
        due.is("10: -1", x.append(-1), -2);
        due.is("10: 't' and 65536", x.append('t' + 65536), -2);
        due.is("10: 32", x.append(32), 1);
        due.is("10: 126", x.append(126), 2);
        for (int length = 3; length <= 80; length++) {
            due.is("10: any number up to 80", x.append('t'), length);
        }
        due.is("10: an 81st", x.append('t'), -3);
        due.is("10: the character is looked at before the room", x.append(127), -2);
        due.is("10: the length", x.count(12), 80);
        due.is("10: it is no action", x.count(11), 0);
    }

    private static void clearing() {
        MainsWords x = new MainsWords();
        due.is("11: an empty text", x.clearText(), 0);
        Calls.type(x, "t9");
        due.is("11: two", x.clearText(), 2);
        due.is("11: it is empty", x.count(12), 0);
        due.is("11: the empty text's fault", x.fault(), 0);
        for (int i = 0; i < 80; i++) {
            x.append('A');
        }
        due.is("11: 80", x.clearText(), 80);
        due.is("11: there is room again", x.append('t'), 1);
        due.is("11: it is no action", x.count(11), 0);
    }

    private static void faults() {
        String[] complete = {
            "0:A0", "4:D!", "t1", "t9", "t10", "t99", "0:A0B1C2D3A+B-C^D!", "t1,t2", "0:A0,t5,1:B+",
            "3:A0,3:A0,t20,t30"
        };
        for (String text : complete) {
            due.is("12: " + text, faultOf(text), -5);
            due.is("12: " + text + " and a comma", faultOf(text + ","), text.length() + 1);
            due.is("12: " + text + " and a space", faultOf(text + " "), text.length());
            due.is("12: " + text + " and two commas", faultOf(text + ",,"), text.length() + 1);
            due.is("12: " + text + " and a colon", faultOf(text + ":"), text.length());
            due.is("12: " + text + " twice", faultOf(text + "," + text), -5);
        }
        String[] begun = {"", "0", "0:", "0:A", "t", "0:A0B", "0:A0,", "0:A0,t", "t5,4:C"};
        for (String text : begun) {
            due.is("12: " + text, faultOf(text), text.length());
        }
        Object[][] wrong = {
            {"5:A0", 0}, {" t5", 0}, {"A0", 0}, {",t5", 0}, {"T5", 0}, {"0A", 1}, {"00:A0", 1}, {"0: A0", 2},
            {"0:0A", 2}, {"0:E0", 2}, {"0:a0", 2}, {"0:@0", 2}, {"0:,", 2}, {"0:A4", 3}, {"0:A/", 3}, {"0:A*", 3},
            {"0:AA", 3}, {"0:A,", 3}, {"0:A01", 4}, {"0:A0t", 4}, {"0:A0E", 4}, {"t0", 1}, {"t,", 1}, {"t-1", 1},
            {"t05", 1}, {"t100", 3}, {"t9A", 2}, {"t99t", 3}, {"t5t5", 2}, {"t5,5", 3}, {"t5,t0", 4}, {"9", 0}
        };
        for (Object[] row : wrong) {
            String text = (String) row[0];
            due.is("12: " + text, faultOf(text), (Integer) row[1]);
            due.is("12: " + text + " and more", faultOf(text + ",t5"), (Integer) row[1]);
        }
        String longest = "t9,".repeat(26) + "t9";
        due.is("12: a text of 80", faultOf(longest), -5);
        due.is("12: a text of 80 that goes on", faultOf("t" + longest.substring(2) + "9"), 1);
        due.is("12: the last of 80", faultOf("t9,".repeat(26) + "t0"), 79);
        due.is("12: no end at 80", faultOf("t9,".repeat(26) + "t9,"), -5);
        due.is("12: the room ends it", faultOf("t9,".repeat(26) + "0:A0"), 80);
    }

    private static void everySignOfAPart() {
        for (char sign = 32; sign <= 126; sign++) {
            due.is("12: a part with " + sign, faultOf(String.valueOf(sign)), "01234t".indexOf(sign) < 0 ? 0 : 1);
            due.is("12: a sender with " + sign, faultOf("0" + sign), sign == ':' ? 2 : 1);
            due.is("12: a letter " + sign, faultOf("0:" + sign), "ABCD".indexOf(sign) < 0 ? 2 : 3);
            due.is("12: a code " + sign, faultOf("0:B" + sign), "0123+-^!".indexOf(sign) < 0 ? 3 : -5);
            due.is("12: behind a word " + sign, faultOf("0:B+" + sign), "ABCD,".indexOf(sign) < 0 ? 4 : 5);
            due.is("12: beats " + sign, faultOf("t" + sign), "123456789".indexOf(sign) < 0 ? 1 : -5);
            int second = sign == ',' ? 3 : "0123456789".indexOf(sign) < 0 ? 2 : -5;
            due.is("12: behind a digit " + sign, faultOf("t2" + sign), second);
            due.is("12: behind two digits " + sign, faultOf("t20" + sign), sign == ',' ? 4 : 3);
        }
    }

    private static int faultOf(String text) {
        MainsWords x = new MainsWords();
        Calls.type(x, text);
        return x.fault();
    }

    private static int performed(MainsWords x, String text) {
        Calls.type(x, text);
        return x.perform();
    }

    private static void performing() {
        MainsWords x = new MainsWords();
        for (int i = 0; i < 5; i++) {
            x.sender(0, 9);
        }
        due.is("13: words of two senders", performed(x, "0:A0B1C2,3:D3A+B-,4:C^D!"), 8);
        int[][] queues = {{0, 9, 18}, {}, {}, {27, 4, 13}, {22, 31}};
        for (int number = 0; number < 5; number++) {
            due.is("13: queue of " + number, x.senderOf(number, 2), queues[number].length);
            for (int place = 0; place < queues[number].length; place++) {
                due.is("13: word of " + number, x.queued(number, place), queues[number][place]);
            }
        }
        due.is("13: no time has passed", x.count(0), 0);
        due.is("13: t counts one each", performed(x, "t1,t10,t99"), 3);
        due.is("13: so many beats", x.count(0), 110);
        MainsWords y = new MainsWords();
        y.sender(0, 9);
        y.lamp(3, 1, 2);
        due.is("13: a lamp is switched", performed(y, "0:B2,t34,0:B+,t40"), 4);
        due.is("13: its level", y.lampOf(0, 3), 9);
        due.is("13: the text stays", y.count(12), 17);
        due.is("13: and can be carried out again", y.perform(), 4);
        due.is("13: the time", y.count(0), 148);
        due.is("13: the fault", performed(y, "0:A0,5"), -105);
        due.is("13: no end", performed(y, "0:A0,t"), -106);
        due.is("13: empty", performed(y, ""), -100);
        due.is("13: wrong at once", performed(y, "x"), -100);
        due.is("13: nothing is carried out of a wrong script", y.count(0), 148);
        due.is("13: not even its first words", y.count(5), 0);
        due.is("13: the longest", performed(y, "t99,".repeat(19) + "t99"), 20);
        due.is("13: all its beats", y.count(0), 148 + 20 * 99);
    }

    private static void performStops() {
        MainsWords x = new MainsWords();
        x.sender(0, 9);
        due.is("13: no such sender stops it", performed(x, "t3,0:A0,1:A1,t50,0:A2"), 2);
        due.is("13: what is behind is not carried out", x.count(0), 3);
        due.is("13: what is before is", x.count(5), 1);
        due.is("13: a full queue stops it", performed(x, "0:B0B1B2B3B+B-B^,t5"), 5);
        due.is("13: the queue is full", x.count(5), 6);
        due.is("13: the last word", x.queued(0, 5), 12);
        due.is("13: the time has not passed", x.count(0), 3);
        due.is("13: nothing at all", performed(x, "0:A0,t5"), 0);
    }

    private static void performIsOneAction() {
        MainsWords x = new MainsWords();
        x.sender(0, 9);
        due.is("13: four are carried out", performed(x, "0:A0A1,t5,t6"), 4);
        due.is("13: one action", x.count(11), 2);
        x.undo();
        due.is("13: its beats are undone", x.count(0), 0);
        due.is("13: so are its words", x.count(5), 0);
        due.is("13: the text stays", x.count(12), 12);
        due.is("13: nothing is carried out", performed(x, "2:A0"), 0);
        due.is("13: it is an action all the same", x.count(11), 2);
        due.is("13: a fault", performed(x, "2:A"), -103);
        due.is("13: is no action", x.count(11), 2);
    }
}
