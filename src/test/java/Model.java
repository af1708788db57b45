import java.util.ArrayDeque;
import java.util.ArrayList;
import java.util.Deque;
import java.util.List;
import java.util.regex.Matcher;
import java.util.regex.Pattern;

/**
 * The document once more, written apart from MainsWords and in other ways (lists, texts of bits, a pattern for
 * scripts, whole copies), so that a slip in one of the two shows where their answers differ.
 */
final class Model {
    private static final int NO_SUCH = -1, BAD_VALUE = -2, TOO_MANY = -3, NOT_POSSIBLE = -4, NONE = -5;
    private static final String PART = "(?:[0-4]:(?:[A-D][0-3+^!-])+|t[1-9][0-9]?)";
    private static final Pattern SCRIPT = Pattern.compile(PART + "(?:," + PART + ")*");
    private static final Pattern ORDER = Pattern.compile("([0-4]):|([A-D][0-3+^!-])|t([1-9][0-9]?)");
    private static final String CODES = "0123+-^!";

    private static final class Sender {
        int wire, strength, pause;
        int spoken = -1;
        List<Integer> words = new ArrayList<>();

        Sender copy() {
            Sender s = new Sender();
            s.wire = wire;
            s.strength = strength;
            s.pause = pause;
            s.spoken = spoken;
            s.words = new ArrayList<>(words);
            return s;
        }

        char bit() {
            return (frameOf(words.get(0)) + "000").charAt(spoken % 17);
        }
    }

    private static final class State implements Cloneable {
        Sender[] senders = new Sender[5];
        int[][] machines = new int[4][];
        int[][] lamps = new int[8][];
        String[] heard = {"0000", "0000", "0000", "0000", "0000", "0000"};
        String[] read = new String[6];
        int[] told = {NONE, NONE, NONE, NONE, NONE, NONE};
        int[] when = new int[6];
        boolean[][] closed = new boolean[6][4];
        int[] settings = {6, 5, 4, 2};
        int[] totals = new int[5];
        int time = 0;

        State copy() {
            State s = new State();
            for (int i = 0; i < 5; i++) {
                s.senders[i] = senders[i] == null ? null : senders[i].copy();
            }
            for (int i = 0; i < 4; i++) {
                s.machines[i] = machines[i] == null ? null : machines[i].clone();
            }
            for (int i = 0; i < 8; i++) {
                s.lamps[i] = lamps[i] == null ? null : lamps[i].clone();
            }
            for (int i = 0; i < 6; i++) {
                s.closed[i] = closed[i].clone();
            }
            s.heard = heard.clone();
            s.read = read.clone();
            s.told = told.clone();
            s.when = when.clone();
            s.settings = settings.clone();
            s.totals = totals.clone();
            s.time = time;
            return s;
        }

        int loss(int a, int b) {
            return (a % 3 != b % 3 ? settings[0] : 0) + (a / 3 != b / 3 ? settings[1] : 0);
        }

        int words() {
            int n = 0;
            for (Sender s : senders) {
                n += s == null ? 0 : s.words.size();
            }
            return n;
        }

        int beat() {
            List<Sender> waiting = new ArrayList<>();
            for (Sender s : senders) {
                if (s != null && s.spoken < 0) {
                    if (s.pause == 0 && !s.words.isEmpty() && read[s.wire] == null && heard[s.wire].equals("0000")) {
                        waiting.add(s);
                    }
                    s.pause = Math.max(0, s.pause - 1);
                }
            }
            for (Sender s : waiting) {
                s.spoken = 0;
            }
            char[] on = new char[6];
            for (int w = 0; w < 6; w++) {
                on[w] = bitOn(w);
            }
            for (int i = 0; i < 5; i++) {
                Sender s = senders[i];
                if (s != null && s.spoken >= 0) {
                    if (s.spoken % 17 < 14 && s.bit() == '0' && on[s.wire] == '1') {
                        s.spoken = -1;
                        s.pause = 3 + 2 * i;
                        totals[1]++;
                    } else {
                        s.spoken++;
                        if (s.spoken % 17 == 0 && s.spoken / 17 >= settings[3]) {
                            s.spoken = -1;
                            s.words.remove(0);
                            totals[0]++;
                        }
                    }
                }
            }
            int fresh = 0;
            for (int w = 0; w < 6; w++) {
                fresh += take(w, on[w]) ? 1 : 0;
            }
            time++;
            return fresh;
        }

        char bitOn(int w) {
            for (Sender s : senders) {
                if (s != null && s.spoken >= 0 && s.bit() == '1' && s.strength - loss(s.wire, w) >= settings[2]) {
                    return '1';
                }
            }
            for (int[] m : machines) {
                if (m != null && m[3] == 1 && time % m[2] == 0 && m[1] - loss(m[0], w) >= settings[2]) {
                    return '1';
                }
            }
            return '0';
        }

        boolean take(int w, char bit) {
            if (read[w] == null) {
                heard[w] = heard[w].substring(1) + bit;
                if (heard[w].equals("1110")) {
                    read[w] = "";
                }
                return false;
            }
            read[w] += bit;
            String bits = read[w];
            if (bits.matches("(..)*(00|11)")) {
                totals[4]++;
                read[w] = null;
                heard[w] = "0000";
                return false;
            }
            if (bits.length() < 10) {
                return false;
            }
            read[w] = null;
            heard[w] = "0000";
            return tell(w, Integer.parseInt(bits.replaceAll("(.).", "$1"), 2));
        }

        boolean tell(int w, int word) {
            boolean copy = told[w] == word && time - when[w] <= 17;
            told[w] = word;
            when[w] = time;
            totals[copy ? 3 : 2]++;
            if (copy) {
                return false;
            }
            int letter = word / 8, code = word % 8;
            for (int[] lamp : lamps) {
                if (lamp == null || lamp[0] != w || lamp[1] != letter) {
                    continue;
                }
                if (code <= 3) {
                    if (closed[w][letter]) {
                        lamp[4] = 0;
                    }
                    if (lamp[2] == code) {
                        lamp[4] = 1;
                    }
                } else if (code == 7) {
                    lamp[3] = 0;
                } else if (lamp[4] == 1) {
                    lamp[3] = code == 4 ? 9 : code == 5 ? 0 : Math.min(9, lamp[3] + 1);
                }
            }
            closed[w][letter] = code > 3;
            return true;
        }
    }

    private State now = new State();
    private State snapshot = null;
    private final Deque<State> history = new ArrayDeque<>();
    private String text = "";

    private static String frameOf(int word) {
        StringBuilder bits = new StringBuilder("1110");
        for (char bit : Integer.toBinaryString(32 + word).substring(1).toCharArray()) {
            bits.append(bit == '1' ? "10" : "01");
        }
        return bits.toString();
    }

    private void keep() {
        history.addLast(now.copy());
        if (history.size() > 4) {
            history.removeFirst();
        }
    }

    private static boolean in(int value, int least, int most) {
        return least <= value && value <= most;
    }

    private static <T> int free(T[] things) {
        for (int i = 0; i < things.length; i++) {
            if (things[i] == null) {
                return i;
            }
        }
        return TOO_MANY;
    }

    private static <T> boolean has(T[] things, int number) {
        return in(number, 0, things.length - 1) && things[number] != null;
    }

    private static <T> int size(T[] things) {
        int n = 0;
        for (T thing : things) {
            n += thing == null ? 0 : 1;
        }
        return n;
    }

    int sender(int wire, int strength) {
        int number = !in(wire, 0, 5) ? NO_SUCH : !in(strength, 1, 9) ? BAD_VALUE : free(now.senders);
        if (number >= 0) {
            keep();
            now.senders[number] = new Sender();
            now.senders[number].wire = wire;
            now.senders[number].strength = strength;
        }
        return number;
    }

    int machine(int wire, int strength, int period) {
        boolean bad = !in(strength, 1, 9) || !in(period, 2, 20);
        int number = !in(wire, 0, 5) ? NO_SUCH : bad ? BAD_VALUE : free(now.machines);
        if (number >= 0) {
            keep();
            now.machines[number] = new int[] {wire, strength, period, 1};
        }
        return number;
    }

    int lamp(int wire, int letter, int unit) {
        boolean bad = !in(letter, 0, 3) || !in(unit, 0, 3);
        int number = !in(wire, 0, 5) ? NO_SUCH : bad ? BAD_VALUE : free(now.lamps);
        if (number >= 0) {
            keep();
            now.lamps[number] = new int[] {wire, letter, unit, 0, 0};
        }
        return number;
    }

    int remove(int kind, int number) {
        if (!in(kind, 0, 2)) {
            return BAD_VALUE;
        }
        if (kind == 0 ? !has(now.senders, number) : !has(kind == 1 ? now.machines : now.lamps, number)) {
            return NO_SUCH;
        }
        keep();
        int wire = kind == 0 ? now.senders[number].wire : kind == 1 ? now.machines[number][0] : now.lamps[number][0];
        if (kind == 0) {
            now.senders[number] = null;
        } else {
            (kind == 1 ? now.machines : now.lamps)[number] = null;
        }
        return wire;
    }

    int say(int sender, int word) {
        State before = now.copy();
        int answer = sayOnly(sender, word);
        if (answer >= 0) {
            State after = now;
            now = before;
            keep();
            now = after;
        }
        return answer;
    }

    private int sayOnly(int sender, int word) {
        if (!has(now.senders, sender)) {
            return NO_SUCH;
        }
        if (!in(word, 0, 31)) {
            return BAD_VALUE;
        }
        List<Integer> words = now.senders[sender].words;
        if (words.size() == 6) {
            return TOO_MANY;
        }
        words.add(word);
        return words.size();
    }

    int run(int machine, boolean isOn) {
        if (!has(now.machines, machine)) {
            return NO_SUCH;
        }
        keep();
        int before = now.machines[machine][3];
        now.machines[machine][3] = isOn ? 1 : 0;
        return before;
    }

    int set(int setting, int value) {
        if (!in(setting, 0, 3)) {
            return NO_SUCH;
        }
        if (!in(value, setting < 2 ? 0 : 1, setting < 3 ? 9 : 3)) {
            return BAD_VALUE;
        }
        keep();
        int before = now.settings[setting];
        now.settings[setting] = value;
        return before;
    }

    int pass(int beats) {
        if (!in(beats, 1, 99)) {
            return BAD_VALUE;
        }
        keep();
        return passOnly(beats);
    }

    private int passOnly(int beats) {
        int fresh = 0;
        for (int i = 0; i < beats; i++) {
            fresh += now.beat();
        }
        return fresh;
    }

    int append(int character) {
        if (!in(character, 32, 126)) {
            return BAD_VALUE;
        }
        if (text.length() == 80) {
            return TOO_MANY;
        }
        text += (char) character;
        return text.length();
    }

    int clearText() {
        int length = text.length();
        text = "";
        return length;
    }

    int fault() {
        for (int end = 1; end <= text.length(); end++) {
            Matcher m = SCRIPT.matcher(text.substring(0, end));
            if (!m.matches() && !m.hitEnd()) {
                return end - 1;
            }
        }
        return SCRIPT.matcher(text).matches() ? NONE : text.length();
    }

    int perform() {
        int fault = fault();
        if (fault != NONE) {
            return -100 - fault;
        }
        keep();
        int done = 0;
        int speaker = 0;
        Matcher m = ORDER.matcher(text);
        while (m.find()) {
            if (m.group(1) != null) {
                speaker = Integer.parseInt(m.group(1));
                continue;
            }
            if (m.group(3) != null) {
                passOnly(Integer.parseInt(m.group(3)));
            } else {
                String word = m.group(2);
                if (sayOnly(speaker, "ABCD".indexOf(word.charAt(0)) * 8 + CODES.indexOf(word.charAt(1))) < 0) {
                    break;
                }
            }
            done++;
        }
        return done;
    }

    int undo() {
        if (history.isEmpty()) {
            return NONE;
        }
        now = history.removeLast();
        return history.size();
    }

    int save() {
        snapshot = now.copy();
        return now.time;
    }

    int restore() {
        if (snapshot == null) {
            return NOT_POSSIBLE;
        }
        keep();
        now = snapshot.copy();
        return now.time;
    }

    int senderOf(int sender, int what) {
        if (!has(now.senders, sender)) {
            return NO_SUCH;
        }
        if (!in(what, 0, 6)) {
            return BAD_VALUE;
        }
        Sender s = now.senders[sender];
        boolean rests = s.spoken < 0;
        int[] answers = {
            s.wire, s.strength, s.words.size(), rests ? NONE : s.spoken % 17, rests ? NONE : s.spoken / 17,
            s.pause, rests ? NONE : s.bit() - '0'
        };
        return answers[what];
    }

    int queued(int sender, int place) {
        if (!has(now.senders, sender)) {
            return NO_SUCH;
        }
        List<Integer> words = now.senders[sender].words;
        return place < 0 ? BAD_VALUE : place < words.size() ? words.get(place) : NONE;
    }

    int machineOf(int machine, int what) {
        return !has(now.machines, machine) ? NO_SUCH : in(what, 0, 3) ? now.machines[machine][what] : BAD_VALUE;
    }

    int lampOf(int lamp, int what) {
        return !has(now.lamps, lamp) ? NO_SUCH : in(what, 0, 4) ? now.lamps[lamp][what] : BAD_VALUE;
    }

    int receiver(int wire, int what) {
        if (!in(wire, 0, 5)) {
            return NO_SUCH;
        }
        if (!in(what, 0, 4)) {
            return BAD_VALUE;
        }
        String read = now.read[wire];
        int open = 0;
        for (int letter = 0; letter < 4; letter++) {
            open += now.closed[wire][letter] ? 0 : 1 << letter;
        }
        int[] answers = {
            read == null ? NONE : read.length(), read == null ? Integer.parseInt(now.heard[wire], 2) : NONE,
            now.told[wire], now.told[wire] == NONE ? NONE : now.time - now.when[wire], open
        };
        return answers[what];
    }

    int frame(int word, int index) {
        return in(word, 0, 31) && in(index, 0, 13) ? frameOf(word).charAt(index) - '0' : BAD_VALUE;
    }

    int loss(int wire, int other) {
        return in(wire, 0, 5) && in(other, 0, 5) ? now.loss(wire, other) : NO_SUCH;
    }

    int count(int what) {
        int speaking = 0;
        for (Sender s : now.senders) {
            speaking += s != null && s.spoken >= 0 ? 1 : 0;
        }
        int lit = 0;
        for (int[] lamp : now.lamps) {
            lit += lamp != null && lamp[3] > 0 ? 1 : 0;
        }
        int[] answers = {
            now.time, size(now.senders), size(now.machines), size(now.lamps), speaking, now.words(), lit,
            now.settings[0], now.settings[1], now.settings[2], now.settings[3], history.size(), text.length()
        };
        return in(what, 0, 12) ? answers[what] : BAD_VALUE;
    }

    int total(int what) {
        return in(what, 0, 4) ? now.totals[what] : BAD_VALUE;
    }

    int silentIn() {
        State ahead = now.copy();
        int beats = 0;
        while (beats <= 600 && ahead.words() > 0) {
            ahead.beat();
            beats++;
        }
        return beats <= 600 ? beats : NONE;
    }

    int levelIn(int lamp, int beats) {
        if (!has(now.lamps, lamp)) {
            return NO_SUCH;
        }
        if (!in(beats, 0, 400)) {
            return BAD_VALUE;
        }
        State ahead = now.copy();
        for (int i = 0; i < beats; i++) {
            ahead.beat();
        }
        return ahead.lamps[lamp][3];
    }

    float freshness() {
        int sum = now.totals[2] + now.totals[3] + now.totals[4];
        return sum == 0 ? 0.0f : (float) now.totals[2] / sum;
    }
}
