/**
 * Words that are sent over the mains of two houses with three phases each.
 * The promises that this class keeps are numbered in ../shared/DOC.md.
 */
public final class MainsWords {
    public static final int NO_SUCH = -1;
    public static final int BAD_VALUE = -2;
    public static final int TOO_MANY = -3;
    public static final int NOT_POSSIBLE = -4;
    public static final int NONE = -5;
    public static final int CROSS = 0, DOOR = 1, SENSE = 2, COPIES = 3;
    public static final int SENDER = 0, MACHINE = 1, LAMP = 2;

    private static final int WIRES = 6;
    private static final int PHASES = 3;
    private static final int MOST_SENDERS = 5;
    private static final int MOST_MACHINES = 4;
    private static final int MOST_LAMPS = 8;
    private static final int MOST_QUEUED = 6;
    private static final int MOST_STATES = 4;
    private static final int MOST_SIGNS = 80;

    private static final int MOST_STRENGTH = 9;
    private static final int LEAST_PERIOD = 2;
    private static final int MOST_PERIOD = 20;
    private static final int MOST_LEVEL = 9;
    private static final int MOST_BEATS = 99;
    private static final int MOST_BEATS_TO_SILENCE = 600;
    private static final int MOST_BEATS_TO_LEVEL = 400;
    private static final int FIRST_SIGN = 32;
    private static final int LAST_SIGN = 126;

    private static final int WORDS = 32;
    private static final int LETTERS = 4;
    private static final int UNITS = 4;
    private static final int CODES = 8;
    private static final int ON = 4;
    private static final int OFF = 5;
    private static final int UP = 6;
    private static final int ALL_OFF = 7;

    private static final int FRAME_BITS = 14;
    private static final int MARK_BITS = 4;
    private static final int MARK = 14;
    private static final int WORD_BITS = 5;
    private static final int LAST_PLACE = 16;
    private static final int COPY_BEATS = 17;
    private static final int SHORTEST_PAUSE = 3;

    private static final int SETTINGS = 4;
    private static final int[] LEAST_SETTING = {0, 0, 1, 1};
    private static final int[] MOST_SETTING = {9, 9, 9, 3};

    private static final int TOTALS = 5;
    private static final int FINISHED = 0;
    private static final int DISTURBED = 1;
    private static final int NEW_WORDS = 2;
    private static final int COPIED_WORDS = 3;
    private static final int BAD_WORDS = 4;

    private static final int FAULT_BASE = -100;

    private final Net now = new Net();
    private final Net ahead = new Net();
    private final Net snapshot = new Net();
    private boolean hasSnapshot = false;
    private final History history = new History();
    private final Script script = new Script();

    public MainsWords() {
    }

    // ---- things

    public int sender(int wire, int strength) {
        if (!isWire(wire)) {
            return NO_SUCH;
        }
        if (strength < 1 || strength > MOST_STRENGTH) {
            return BAD_VALUE;
        }
        Sender added = now.freeSender();
        if (added == null) {
            return TOO_MANY;
        }
        history.keep(now);
        added.put(wire, strength);
        return added.number;
    }

    public int machine(int wire, int strength, int period) {
        if (!isWire(wire)) {
            return NO_SUCH;
        }
        if (strength < 1 || strength > MOST_STRENGTH) {
            return BAD_VALUE;
        }
        if (period < LEAST_PERIOD || period > MOST_PERIOD) {
            return BAD_VALUE;
        }
        Machine added = now.freeMachine();
        if (added == null) {
            return TOO_MANY;
        }
        history.keep(now);
        added.put(wire, strength, period);
        return added.number;
    }

    public int lamp(int wire, int letter, int unit) {
        if (!isWire(wire)) {
            return NO_SUCH;
        }
        if (letter < 0 || letter >= LETTERS || unit < 0 || unit >= UNITS) {
            return BAD_VALUE;
        }
        Lamp added = now.freeLamp();
        if (added == null) {
            return TOO_MANY;
        }
        history.keep(now);
        added.put(wire, letter, unit);
        return added.number;
    }

    public int remove(int kind, int number) {
        Thing[] things = now.thingsOf(kind);
        if (things == null) {
            return BAD_VALUE;
        }
        Thing thing = presentAt(things, number);
        if (thing == null) {
            return NO_SUCH;
        }
        history.keep(now);
        thing.isPresent = false;
        return thing.wire;
    }

    public int say(int sender, int word) {
        int refusal = now.refusalOfWord(sender, word);
        if (refusal < 0) {
            return refusal;
        }
        history.keep(now);
        return now.giveWord(sender, word);
    }

    public int run(int machine, boolean isOn) {
        Machine found = now.machineAt(machine);
        if (found == null) {
            return NO_SUCH;
        }
        history.keep(now);
        int before = asNumber(found.isOn);
        found.isOn = isOn;
        return before;
    }

    public int set(int setting, int value) {
        if (setting < 0 || setting >= SETTINGS) {
            return NO_SUCH;
        }
        if (value < LEAST_SETTING[setting] || value > MOST_SETTING[setting]) {
            return BAD_VALUE;
        }
        history.keep(now);
        int before = now.settings[setting];
        now.settings[setting] = value;
        return before;
    }

    public int pass(int beats) {
        if (beats < 1 || beats > MOST_BEATS) {
            return BAD_VALUE;
        }
        history.keep(now);
        return now.letPass(beats);
    }

    // ---- text

    public int append(int character) {
        if (character < FIRST_SIGN || character > LAST_SIGN) {
            return BAD_VALUE;
        }
        if (script.isFull()) {
            return TOO_MANY;
        }
        script.add(character);
        return script.length;
    }

    public int clearText() {
        int before = script.length;
        script.length = 0;
        return before;
    }

    public int fault() {
        return script.firstFault();
    }

    public int perform() {
        int wrong = script.firstFault();
        if (wrong != NONE) {
            return FAULT_BASE - wrong;
        }
        history.keep(now);
        int done = 0;
        int speaker = NO_SUCH;
        // A complete script has a colon behind senders alone and a letter or a t at the start of each order.
        for (int at = 0; at < script.length; at++) {
            int sign = script.signAt(at);
            if (sign == ':') {
                speaker = script.signAt(at - 1) - '0';
            } else if (sign == 't') {
                now.letPass(script.beatsBehind(at));
                done++;
            } else if (Script.isLetter(sign)) {
                int word = Script.wordOf(sign, script.signAt(at + 1));
                if (now.refusalOfWord(speaker, word) < 0) {
                    return done;
                }
                now.giveWord(speaker, word);
                done++;
            }
        }
        return done;
    }

    // ---- history and snapshot

    public int undo() {
        if (history.isEmpty()) {
            return NONE;
        }
        history.takeBack(now);
        return history.kept;
    }

    public int save() {
        snapshot.copyFrom(now);
        hasSnapshot = true;
        return now.time;
    }

    public int restore() {
        if (!hasSnapshot) {
            return NOT_POSSIBLE;
        }
        history.keep(now);
        now.copyFrom(snapshot);
        return now.time;
    }

    // ---- queries; they change nothing

    public int senderOf(int sender, int what) {
        Sender found = now.senderAt(sender);
        if (found == null) {
            return NO_SUCH;
        }
        switch (what) {
            case 0:
                return found.wire;
            case 1:
                return found.strength;
            case 2:
                return found.queueLength;
            case 3:
                return found.speaks ? found.place : NONE;
            case 4:
                return found.speaks ? found.copy : NONE;
            case 5:
                return found.pause;
            case 6:
                return found.speaks ? found.bitToSend() : NONE;
            default:
                return BAD_VALUE;
        }
    }

    public int queued(int sender, int place) {
        Sender found = now.senderAt(sender);
        if (found == null) {
            return NO_SUCH;
        }
        return place < 0 ? BAD_VALUE : found.wordAt(place);
    }

    public int machineOf(int machine, int what) {
        Machine found = now.machineAt(machine);
        if (found == null) {
            return NO_SUCH;
        }
        switch (what) {
            case 0:
                return found.wire;
            case 1:
                return found.strength;
            case 2:
                return found.period;
            case 3:
                return asNumber(found.isOn);
            default:
                return BAD_VALUE;
        }
    }

    public int lampOf(int lamp, int what) {
        Lamp found = now.lampAt(lamp);
        if (found == null) {
            return NO_SUCH;
        }
        switch (what) {
            case 0:
                return found.wire;
            case 1:
                return found.letter;
            case 2:
                return found.unit;
            case 3:
                return found.level;
            case 4:
                return asNumber(found.isSelected);
            default:
                return BAD_VALUE;
        }
    }

    public int receiver(int wire, int what) {
        if (!isWire(wire)) {
            return NO_SUCH;
        }
        Receiver found = now.receivers[wire];
        switch (what) {
            case 0:
                return found.reads ? found.bitsRead : NONE;
            case 1:
                return found.reads ? NONE : found.latestBits;
            case 2:
                return found.lastWord;
            case 3:
                return found.lastWord == NONE ? NONE : now.time - found.toldAt;
            case 4:
                return found.openLetters;
            default:
                return BAD_VALUE;
        }
    }

    public int frame(int word, int index) {
        if (!isWord(word) || index < 0 || index >= FRAME_BITS) {
            return BAD_VALUE;
        }
        return frameBit(word, index);
    }

    public int loss(int wire, int other) {
        if (!isWire(wire) || !isWire(other)) {
            return NO_SUCH;
        }
        return now.lossBetween(wire, other);
    }

    public int count(int what) {
        switch (what) {
            case 0:
                return now.time;
            case 1:
                return presentIn(now.senders);
            case 2:
                return presentIn(now.machines);
            case 3:
                return presentIn(now.lamps);
            case 4:
                return now.speakingSenders();
            case 5:
                return now.queuedWords();
            case 6:
                return now.litLamps();
            case 7:
                return now.settings[CROSS];
            case 8:
                return now.settings[DOOR];
            case 9:
                return now.settings[SENSE];
            case 10:
                return now.settings[COPIES];
            case 11:
                return history.kept;
            case 12:
                return script.length;
            default:
                return BAD_VALUE;
        }
    }

    public int total(int what) {
        if (what < 0 || what >= TOTALS) {
            return BAD_VALUE;
        }
        return now.totals[what];
    }

    // ---- what would be; nothing is changed

    public int silentIn() {
        ahead.copyFrom(now);
        for (int beats = 0; beats <= MOST_BEATS_TO_SILENCE; beats++) {
            if (ahead.queuedWords() == 0) {
                return beats;
            }
            ahead.beat();
        }
        return NONE;
    }

    public int levelIn(int lamp, int beats) {
        if (now.lampAt(lamp) == null) {
            return NO_SUCH;
        }
        if (beats < 0 || beats > MOST_BEATS_TO_LEVEL) {
            return BAD_VALUE;
        }
        ahead.copyFrom(now);
        ahead.letPass(beats);
        Lamp then = ahead.lampAt(lamp);
        return then == null ? NO_SUCH : then.level;
    }

    public float freshness() {
        int told = now.totals[NEW_WORDS] + now.totals[COPIED_WORDS] + now.totals[BAD_WORDS];
        if (told == 0) {
            return 0.0f;
        }
        return (float) now.totals[NEW_WORDS] / (float) told;
    }

    // ---- what the parts share

    private static boolean isWire(int wire) {
        return wire >= 0 && wire < WIRES;
    }

    private static boolean isWord(int word) {
        return word >= 0 && word < WORDS;
    }

    private static int asNumber(boolean isSo) {
        return isSo ? 1 : 0;
    }

    private static int frameBit(int word, int index) {
        if (index < MARK_BITS) {
            return MARK >> (MARK_BITS - 1 - index) & 1;
        }
        int fromHighest = (index - MARK_BITS) / 2;
        int bit = word >> (WORD_BITS - 1 - fromHighest) & 1;
        return index % 2 == 0 ? bit : 1 - bit;
    }

    private static Thing firstFree(Thing[] things) {
        for (Thing thing : things) {
            if (!thing.isPresent) {
                return thing;
            }
        }
        return null;
    }

    private static Thing presentAt(Thing[] things, int number) {
        if (number < 0 || number >= things.length) {
            return null;
        }
        return things[number].isPresent ? things[number] : null;
    }

    private static int presentIn(Thing[] things) {
        int present = 0;
        for (Thing thing : things) {
            present += asNumber(thing.isPresent);
        }
        return present;
    }

    private static void copyRow(int[] from, int[] to) {
        for (int i = 0; i < from.length && i < to.length; i++) {
            to[i] = from[i];
        }
    }

    /** Something on a wire. Its object stays when it is removed, and serves the next one of its number. */
    private abstract static class Thing {
        final int number;
        boolean isPresent = false;
        int wire = 0;

        Thing(int number) {
            this.number = number;
        }

        final void copyThing(Thing other) {
            isPresent = other.isPresent;
            wire = other.wire;
        }
    }

    private static final class Sender extends Thing {
        final int[] queue = new int[MOST_QUEUED];
        int queueLength = 0;
        int strength = 0;
        boolean speaks = false;
        int copy = 0;
        int place = 0;
        int pause = 0;

        Sender(int number) {
            super(number);
        }

        void put(int onWire, int withStrength) {
            isPresent = true;
            wire = onWire;
            strength = withStrength;
            queueLength = 0;
            speaks = false;
            copy = 0;
            place = 0;
            pause = 0;
        }

        void copyFrom(Sender other) {
            copyThing(other);
            copyRow(other.queue, queue);
            queueLength = other.queueLength;
            strength = other.strength;
            speaks = other.speaks;
            copy = other.copy;
            place = other.place;
            pause = other.pause;
        }

        boolean isSpeaking() {
            return isPresent && speaks;
        }

        boolean isQueueFull() {
            return queueLength >= queue.length;
        }

        void addWord(int word) {
            if (queueLength >= 0 && queueLength < queue.length) {
                queue[queueLength] = word;
                queueLength++;
            }
        }

        int wordAt(int index) {
            if (index < 0 || index >= queueLength || index >= queue.length) {
                return NONE;
            }
            return queue[index];
        }

        private void dropFirstWord() {
            for (int i = 1; i < queue.length; i++) {
                queue[i - 1] = queue[i];
            }
            queueLength--;
        }

        int bitToSend() {
            return place < FRAME_BITS ? frameBit(queue[0], place) : 0;
        }

        /** A pause that ends here still holds for this beat. */
        void beginOrWait(boolean isQuiet) {
            if (speaks) {
                return;
            }
            if (pause > 0) {
                pause--;
            } else if (queueLength > 0 && isQuiet) {
                speaks = true;
                copy = 0;
                place = 0;
            }
        }

        boolean isDisturbedBy(boolean isHeard) {
            return isHeard && place < FRAME_BITS && bitToSend() == 0;
        }

        void giveWay() {
            speaks = false;
            pause = SHORTEST_PAUSE + 2 * number;
        }

        /** Tells whether the word is finished. */
        boolean goOn(int copiesDue) {
            place++;
            if (place <= LAST_PLACE) {
                return false;
            }
            place = 0;
            copy++;
            // COPIES may have become less since this word began.
            if (copy < copiesDue) {
                return false;
            }
            speaks = false;
            dropFirstWord();
            return true;
        }
    }

    private static final class Machine extends Thing {
        int strength = 0;
        int period = LEAST_PERIOD;
        boolean isOn = false;

        Machine(int number) {
            super(number);
        }

        void put(int onWire, int withStrength, int withPeriod) {
            isPresent = true;
            wire = onWire;
            strength = withStrength;
            period = withPeriod;
            isOn = true;
        }

        void copyFrom(Machine other) {
            copyThing(other);
            strength = other.strength;
            period = other.period;
            isOn = other.isOn;
        }

        boolean makesNoiseAt(int time) {
            return isPresent && isOn && period > 0 && time % period == 0;
        }
    }

    private static final class Lamp extends Thing {
        int letter = 0;
        int unit = 0;
        int level = 0;
        boolean isSelected = false;

        Lamp(int number) {
            super(number);
        }

        void put(int onWire, int withLetter, int withUnit) {
            isPresent = true;
            wire = onWire;
            letter = withLetter;
            unit = withUnit;
            level = 0;
            isSelected = false;
        }

        void copyFrom(Lamp other) {
            copyThing(other);
            letter = other.letter;
            unit = other.unit;
            level = other.level;
            isSelected = other.isSelected;
        }

        boolean isCalledBy(int onWire, int byLetter) {
            return isPresent && wire == onWire && letter == byLetter;
        }

        void obey(int code, boolean isLetterOpen) {
            if (code < UNITS) {
                isSelected = unit == code || isSelected && isLetterOpen;
            } else if (code == ALL_OFF) {
                level = 0;
            } else if (isSelected) {
                level = levelBy(code);
            }
        }

        private int levelBy(int code) {
            switch (code) {
                case ON:
                    return MOST_LEVEL;
                case OFF:
                    return 0;
                case UP:
                    return level < MOST_LEVEL ? level + 1 : MOST_LEVEL;
                default:
                    return level;
            }
        }
    }

    private static final class Receiver {
        private static final int NO_WORD = -1;
        private static final int BAD_WORD = -2;

        boolean reads = false;
        int latestBits = 0;
        int bitsRead = 0;
        private int wordSoFar = 0;
        int lastWord = NONE;
        int toldAt = 0;
        int openLetters = (1 << LETTERS) - 1;

        void copyFrom(Receiver other) {
            reads = other.reads;
            latestBits = other.latestBits;
            bitsRead = other.bitsRead;
            wordSoFar = other.wordSoFar;
            lastWord = other.lastWord;
            toldAt = other.toldAt;
            openLetters = other.openLetters;
        }

        boolean isQuiet() {
            return !reads && latestBits == 0;
        }

        /** Returns the word that this bit completes, BAD_WORD or NO_WORD. */
        int take(int bit) {
            return reads ? read(bit) : listen(bit);
        }

        private int listen(int bit) {
            latestBits = (latestBits << 1 | bit) & (1 << MARK_BITS) - 1;
            if (latestBits == MARK) {
                reads = true;
                bitsRead = 0;
                wordSoFar = 0;
            }
            return NO_WORD;
        }

        private int read(int bit) {
            bitsRead++;
            if (bitsRead % 2 != 0) {
                wordSoFar = wordSoFar << 1 | bit;
                return NO_WORD;
            }
            if ((wordSoFar & 1) == bit) {
                listenAnew();
                return BAD_WORD;
            }
            if (bitsRead < 2 * WORD_BITS) {
                return NO_WORD;
            }
            listenAnew();
            return wordSoFar;
        }

        private void listenAnew() {
            reads = false;
            latestBits = 0;
        }

        /** Tells whether the word is new; a copy changes the time alone. */
        boolean tell(int word, int time) {
            boolean isCopy = word == lastWord && time - toldAt <= COPY_BEATS;
            lastWord = word;
            toldAt = time;
            return !isCopy;
        }

        boolean isOpen(int letter) {
            return (openLetters >> letter & 1) == 1;
        }

        void setOpen(int letter, boolean isOpen) {
            openLetters = isOpen ? openLetters | 1 << letter : openLetters & ~(1 << letter);
        }
    }

    /** The state: all that the history and the snapshot keep. */
    private static final class Net {
        final Sender[] senders = new Sender[MOST_SENDERS];
        final Machine[] machines = new Machine[MOST_MACHINES];
        final Lamp[] lamps = new Lamp[MOST_LAMPS];
        final Receiver[] receivers = new Receiver[WIRES];
        final int[] settings = {6, 5, 4, 2};
        final int[] totals = new int[TOTALS];
        int time = 0;
        private final boolean[] heard = new boolean[WIRES];

        Net() {
            for (int i = 0; i < senders.length; i++) {
                senders[i] = new Sender(i);
            }
            for (int i = 0; i < machines.length; i++) {
                machines[i] = new Machine(i);
            }
            for (int i = 0; i < lamps.length; i++) {
                lamps[i] = new Lamp(i);
            }
            for (int i = 0; i < receivers.length; i++) {
                receivers[i] = new Receiver();
            }
        }

        /** What is heard is not copied: each beat makes it anew. */
        void copyFrom(Net other) {
            for (int i = 0; i < senders.length && i < other.senders.length; i++) {
                senders[i].copyFrom(other.senders[i]);
            }
            for (int i = 0; i < machines.length && i < other.machines.length; i++) {
                machines[i].copyFrom(other.machines[i]);
            }
            for (int i = 0; i < lamps.length && i < other.lamps.length; i++) {
                lamps[i].copyFrom(other.lamps[i]);
            }
            for (int i = 0; i < receivers.length && i < other.receivers.length; i++) {
                receivers[i].copyFrom(other.receivers[i]);
            }
            copyRow(other.settings, settings);
            copyRow(other.totals, totals);
            time = other.time;
        }

        Thing[] thingsOf(int kind) {
            switch (kind) {
                case SENDER:
                    return senders;
                case MACHINE:
                    return machines;
                case LAMP:
                    return lamps;
                default:
                    return null;
            }
        }

        Sender freeSender() {
            return firstFree(senders) instanceof Sender free ? free : null;
        }

        Sender senderAt(int number) {
            return presentAt(senders, number) instanceof Sender found ? found : null;
        }

        Machine freeMachine() {
            return firstFree(machines) instanceof Machine free ? free : null;
        }

        Machine machineAt(int number) {
            return presentAt(machines, number) instanceof Machine found ? found : null;
        }

        Lamp freeLamp() {
            return firstFree(lamps) instanceof Lamp free ? free : null;
        }

        Lamp lampAt(int number) {
            return presentAt(lamps, number) instanceof Lamp found ? found : null;
        }

        int speakingSenders() {
            int speaking = 0;
            for (Sender sender : senders) {
                speaking += asNumber(sender.isSpeaking());
            }
            return speaking;
        }

        int queuedWords() {
            int words = 0;
            for (Sender sender : senders) {
                if (sender.isPresent) {
                    words += sender.queueLength;
                }
            }
            return words;
        }

        int litLamps() {
            int lit = 0;
            for (Lamp lamp : lamps) {
                lit += asNumber(lamp.isPresent && lamp.level > 0);
            }
            return lit;
        }

        /** Returns the error code with which a word is refused, 0 if it is not. */
        int refusalOfWord(int number, int word) {
            Sender sender = senderAt(number);
            if (sender == null) {
                return NO_SUCH;
            }
            if (!isWord(word)) {
                return BAD_VALUE;
            }
            return sender.isQueueFull() ? TOO_MANY : 0;
        }

        int giveWord(int number, int word) {
            Sender sender = senderAt(number);
            if (sender == null) {
                return NO_SUCH;
            }
            sender.addWord(word);
            return sender.queueLength;
        }

        int lossBetween(int wire, int other) {
            int across = wire % PHASES == other % PHASES ? 0 : settings[CROSS];
            int throughDoor = wire / PHASES == other / PHASES ? 0 : settings[DOOR];
            return across + throughDoor;
        }

        /** Returns how many new words are told in these beats. */
        int letPass(int beats) {
            int newWords = 0;
            for (int i = 0; i < beats; i++) {
                newWords += beat();
            }
            return newWords;
        }

        int beat() {
            beginSpeaking();
            carryBits();
            moveSenders();
            int newWords = takeBits();
            time++;
            return newWords;
        }

        private void beginSpeaking() {
            for (Sender sender : senders) {
                if (sender.isPresent) {
                    sender.beginOrWait(isQuietOn(sender.wire));
                }
            }
        }

        private boolean isQuietOn(int wire) {
            return wire >= 0 && wire < receivers.length && receivers[wire].isQuiet();
        }

        private boolean isHeardOn(int wire) {
            return wire >= 0 && wire < heard.length && heard[wire];
        }

        private void carryBits() {
            for (int wire = 0; wire < heard.length; wire++) {
                heard[wire] = false;
            }
            for (Sender sender : senders) {
                if (sender.isSpeaking() && sender.bitToSend() == 1) {
                    spreadOne(sender.wire, sender.strength);
                }
            }
            for (Machine machine : machines) {
                if (machine.makesNoiseAt(time)) {
                    spreadOne(machine.wire, machine.strength);
                }
            }
        }

        private void spreadOne(int from, int strength) {
            for (int wire = 0; wire < heard.length; wire++) {
                if (strength - lossBetween(from, wire) >= settings[SENSE]) {
                    heard[wire] = true;
                }
            }
        }

        private void moveSenders() {
            for (Sender sender : senders) {
                if (!sender.isSpeaking()) {
                    continue;
                }
                if (sender.isDisturbedBy(isHeardOn(sender.wire))) {
                    sender.giveWay();
                    totals[DISTURBED]++;
                } else if (sender.goOn(settings[COPIES])) {
                    totals[FINISHED]++;
                }
            }
        }

        private int takeBits() {
            int newWords = 0;
            for (int wire = 0; wire < receivers.length; wire++) {
                int word = receivers[wire].take(asNumber(isHeardOn(wire)));
                if (word == Receiver.BAD_WORD) {
                    totals[BAD_WORDS]++;
                } else if (word != Receiver.NO_WORD) {
                    newWords += hearWord(wire, receivers[wire], word);
                }
            }
            return newWords;
        }

        private int hearWord(int wire, Receiver by, int word) {
            if (!by.tell(word, time)) {
                totals[COPIED_WORDS]++;
                return 0;
            }
            totals[NEW_WORDS]++;
            int letter = word / CODES;
            int code = word % CODES;
            for (Lamp lamp : lamps) {
                if (lamp.isCalledBy(wire, letter)) {
                    lamp.obey(code, by.isOpen(letter));
                }
            }
            by.setOpen(letter, code < UNITS);
            return 1;
        }
    }

    /** The latest states, the oldest one first. */
    private static final class History {
        private final Net[] states = new Net[MOST_STATES];
        int kept = 0;

        History() {
            for (int i = 0; i < states.length; i++) {
                states[i] = new Net();
            }
        }

        boolean isEmpty() {
            return kept == 0;
        }

        void keep(Net state) {
            if (kept >= states.length) {
                dropOldest();
            }
            if (kept >= 0 && kept < states.length) {
                states[kept].copyFrom(state);
                kept++;
            }
        }

        /** The dropped state's object goes to the end, to be filled again. */
        private void dropOldest() {
            Net oldest = states[0];
            for (int i = 1; i < states.length; i++) {
                states[i - 1] = states[i];
            }
            states[states.length - 1] = oldest;
            kept--;
        }

        void takeBack(Net state) {
            if (kept > 0 && kept <= states.length) {
                kept--;
                state.copyFrom(states[kept]);
            }
        }
    }

    private static final class Script {
        private static final int NO_WAY = -1;
        private static final int AT_PART = 0;
        private static final int AT_COLON = 1;
        private static final int AT_LETTER = 2;
        private static final int AT_CODE = 3;
        private static final int BEHIND_WORD = 4;
        private static final int AT_BEATS = 5;
        private static final int BEHIND_DIGIT = 6;
        private static final int BEHIND_BEATS = 7;

        private final int[] signs = new int[MOST_SIGNS];
        int length = 0;

        boolean isFull() {
            return length >= signs.length;
        }

        void add(int sign) {
            if (length >= 0 && length < signs.length) {
                signs[length] = sign;
                length++;
            }
        }

        /** Returns 0, which is no sign of a script, behind the end. */
        int signAt(int index) {
            return index >= 0 && index < length && index < signs.length ? signs[index] : 0;
        }

        int firstFault() {
            int state = AT_PART;
            for (int i = 0; i < length; i++) {
                state = next(state, signAt(i));
                if (state == NO_WAY) {
                    return i;
                }
            }
            boolean isComplete = state == BEHIND_WORD || state == BEHIND_DIGIT || state == BEHIND_BEATS;
            return isComplete ? NONE : length;
        }

        private static int next(int state, int sign) {
            switch (state) {
                case AT_PART:
                    return sign == 't' ? AT_BEATS : isSenderDigit(sign) ? AT_COLON : NO_WAY;
                case AT_COLON:
                    return sign == ':' ? AT_LETTER : NO_WAY;
                case AT_LETTER:
                    return isLetter(sign) ? AT_CODE : NO_WAY;
                case AT_CODE:
                    return codeOf(sign) != NO_SUCH ? BEHIND_WORD : NO_WAY;
                case BEHIND_WORD:
                    return sign == ',' ? AT_PART : isLetter(sign) ? AT_CODE : NO_WAY;
                case AT_BEATS:
                    return isDigit(sign) && sign != '0' ? BEHIND_DIGIT : NO_WAY;
                case BEHIND_DIGIT:
                    return sign == ',' ? AT_PART : isDigit(sign) ? BEHIND_BEATS : NO_WAY;
                case BEHIND_BEATS:
                    return sign == ',' ? AT_PART : NO_WAY;
                default:
                    return NO_WAY;
            }
        }

        private static boolean isDigit(int sign) {
            return sign >= '0' && sign <= '9';
        }

        private static boolean isSenderDigit(int sign) {
            return isDigit(sign) && sign - '0' < MOST_SENDERS;
        }

        static boolean isLetter(int sign) {
            return sign >= 'A' && sign < 'A' + LETTERS;
        }

        private static int codeOf(int sign) {
            switch (sign) {
                case '+':
                    return ON;
                case '-':
                    return OFF;
                case '^':
                    return UP;
                case '!':
                    return ALL_OFF;
                default:
                    return sign >= '0' && sign < '0' + UNITS ? sign - '0' : NO_SUCH;
            }
        }

        static int wordOf(int letterSign, int codeSign) {
            return CODES * (letterSign - 'A') + codeOf(codeSign);
        }

        /** Of the t at this index; a number has two digits at the most. */
        int beatsBehind(int index) {
            int beats = 0;
            for (int i = 1; i <= 2 && isDigit(signAt(index + i)); i++) {
                beats = 10 * beats + signAt(index + i) - '0';
            }
            return beats;
        }
    }
}
