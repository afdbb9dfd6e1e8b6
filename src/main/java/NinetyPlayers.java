/**
 * Orchestra scores laid down for one piano, as the project's document promises it.
 *
 * <p>All rows are made together with the object and used again by every call: all calls of a run
 * live in one room, so no call makes an object. Sets of notes, or of beats, are the bits of an int.
 */
public final class NinetyPlayers {
    public static final int NONE = -1;

    private static final int CANT_BE_LET_IN = -100;
    private static final int NOT_THE_SAME = -2;

    private static final int TAPE_MOST = 1600;
    private static final int FED_AT_ONCE = 20;
    private static final int PARTS_MOST = 4;
    private static final int NOTES_MOST = 10;
    private static final int BEATS_MOST = 12;
    private static final int KEY_MOST = 87;
    private static final int LENGTH_MOST = 12;
    private static final int LOUD_MOST = 9;
    private static final int FINGERS_MOST = 5;
    private static final int EAR_MOST = 9;
    private static final int MISSED_MOST = 999;
    private static final int OCTAVE = 12;
    private static final int OCTAVES_MOST = 7;
    private static final int ACTS_MOST = 40;
    private static final int HEARD_MOST = 30;
    private static final int LATER_MOST = 1000;
    private static final int TIME_MOST = 100000;

    private static final int OUT = 0;
    private static final int LEFT = 1;
    private static final int RIGHT = 2;

    private static final int BASS_ROLE = 1;
    private static final int TUNE_ROLE = 2;

    private static final int TOO_MANY = 1;
    private static final int TOO_WIDE = 2;
    private static final int CROSSED = 4;
    private static final int KEY_TWICE = 8;
    private static final int TOO_FAR = 16;

    private final Reader reader = new Reader();
    private final Tape tape = reader.tape;
    private Score told = new Score();
    private final Laying now = new Laying();
    private final Laying[] boxes = {new Laying(), new Laying(), new Laying()};
    private final Acts acts = new Acts();
    private final Arranger arranger = new Arranger();
    private final Keyboard keyboard = arranger.keyboard;
    private final int[] missed = arranger.missed;
    private final Pedaller pedaller = new Pedaller();
    private final Witness witness = new Witness();
    private final int[] lying = new int[NOTES_MOST];
    private int lyingSize;

    public NinetyPlayers() {
        now.follow(told);
    }

    // ---- the text

    public int feed(int a, int b, int c, int d, int e) {
        if (tape.size + FED_AT_ONCE > TAPE_MOST) {
            return NONE;
        }
        tape.putFourBytes(a);
        tape.putFourBytes(b);
        tape.putFourBytes(c);
        tape.putFourBytes(d);
        tape.putFourBytes(e);
        return tape.size;
    }

    public int end(int n) {
        if (n < 0 || n > tape.size) {
            return NONE;
        }
        tape.size = n;
        return n;
    }

    public int score() {
        reader.begin();
        for (int line = 0; line < TAPE_MOST && reader.goesOn(); line++) {
            reader.readLine();
        }
        tape.size = 0;
        if (reader.fault != 0) {
            return NONE;
        }
        told = reader.exchange(told);
        now.follow(told);
        acts.forget();
        witness.forget();
        lyingSize = 0;
        for (int box = 0; box < boxes.length; box++) {
            boxes[box].kept = false;
        }
        return told.notes;
    }

    public int fault(int what) {
        switch (what) {
            case 0:
                return reader.fault;
            case 1:
                return reader.place;
            default:
                return NONE;
        }
    }

    // ---- what is there now

    public int note(int note, int what) {
        if (!isNote(note)) {
            return NONE;
        }
        switch (what) {
            case 0:
                return told.partOf[note];
            case 1:
                return told.begins[note];
            case 2:
                return now.keys[note];
            case 3:
                return now.lengths[note];
            case 4:
                return now.louds[note];
            case 5:
                return now.hands[note];
            case 6:
                return missedOf(note);
            case 7:
                return doublesOf(note);
            default:
                return NONE;
        }
    }

    public int part(int part, int what) {
        if (part < 0 || part >= told.parts) {
            return NONE;
        }
        switch (what) {
            case 0:
                return told.roles[part];
            case 1:
                return told.notesOf(part);
            case 2:
                return told.notesOf(part) & givenSet();
            default:
                return NONE;
        }
    }

    public int held(int beat, int hand) {
        if (!isBeat(beat) || !isHand(hand)) {
            return NONE;
        }
        lookAtKeys();
        return keyboard.heldBy(hand, beat);
    }

    public int sounds(int beat) {
        if (!isBeat(beat)) {
            return NONE;
        }
        lookAtKeys();
        return keyboard.soundingAt(beat);
    }

    public int clash(int beat) {
        if (!isBeat(beat)) {
            return NONE;
        }
        lookAtKeys();
        return keyboard.clashesAt(keyboard.left, keyboard.right, beat);
    }

    private boolean isNote(int note) {
        return note >= 0 && note < told.notes;
    }

    private boolean isLeftOut(int note) {
        return isNote(note) && now.hands[note] == OUT;
    }

    private boolean isBeat(int beat) {
        return beat >= 0 && beat < told.beats;
    }

    private static boolean isHand(int hand) {
        return hand == LEFT || hand == RIGHT;
    }

    private static boolean isKey(int key) {
        return key >= 0 && key <= KEY_MOST;
    }

    private void lookAtKeys() {
        keyboard.lay(told, now);
    }

    private int givenSet() {
        return now.setOf(LEFT) | now.setOf(RIGHT);
    }

    private int doublesOf(int note) {
        int set = 0;
        for (int other = 0; other < told.notes; other++) {
            boolean together = told.begins[other] == told.begins[note];
            if (other != note && together && (now.keys[other] - now.keys[note]) % OCTAVE == 0) {
                set |= 1 << other;
            }
        }
        return set;
    }

    private int missedOf(int note) {
        int role = told.roleOf(note);
        int loud = now.louds[note];
        int doubled = Integer.bitCount(doublesOf(note));
        int value = loud + role * 5 - doubled;
        if (told.formula.isTold()) {
            value = told.formula.valueOf(
                    role, now.keys[note], now.lengths[note], loud, doubled, told.begins[note]);
        }
        return Math.max(0, Math.min(MISSED_MOST, value));
    }

    private void weighAll() {
        for (int note = 0; note < told.notes; note++) {
            missed[note] = missedOf(note);
        }
    }

    // ---- acts

    public int give(int note, int hand) {
        if (!isNote(note) || hand < OUT || hand > RIGHT || now.hands[note] == hand) {
            return NONE;
        }
        acts.act(now, Laying.HAND, note, hand);
        return clashes();
    }

    public int shift(int note, int octaves) {
        if (!isNote(note) || octaves < -OCTAVES_MOST || octaves > OCTAVES_MOST || octaves == 0) {
            return NONE;
        }
        int key = now.keys[note] + octaves * OCTAVE;
        if (!isKey(key)) {
            return NONE;
        }
        acts.act(now, Laying.KEY, note, key);
        return key;
    }

    public int louder(int note, int loud) {
        if (!isNote(note) || loud < 1 || loud > LOUD_MOST || now.louds[note] == loud) {
            return NONE;
        }
        int was = now.louds[note];
        acts.act(now, Laying.LOUD, note, loud);
        return was;
    }

    public int last(int note, int beats) {
        if (!isNote(note) || beats < 1 || beats > LENGTH_MOST || now.lengths[note] == beats) {
            return NONE;
        }
        int was = now.lengths[note];
        acts.act(now, Laying.LENGTH, note, beats);
        return was;
    }

    public int pedal(int beat) {
        if (!isBeat(beat)) {
            return NONE;
        }
        acts.act(now, Laying.PEDAL, beat, now.pedal ^ 1 << beat);
        return now.pedal;
    }

    public boolean undo() {
        return acts.takeBack(now);
    }

    public boolean redo() {
        return acts.doAgain(now);
    }

    // ---- what would be

    public int clashes() {
        lookAtKeys();
        return keyboard.clashingBeats(keyboard.left, keyboard.right);
    }

    public int loss() {
        int loss = 0;
        for (int note = 0; note < told.notes; note++) {
            if (now.hands[note] == OUT) {
                loss += missedOf(note);
            }
        }
        return loss;
    }

    public int version(int what) {
        layLeastMissed(told.fingers, told.span);
        switch (what) {
            case 0:
                return arranger.loss;
            case 1:
                return Integer.bitCount(arranger.left | arranger.right);
            default:
                return NONE;
        }
    }

    public int child(int fingers, int span) {
        if (fingers < 1 || fingers > FINGERS_MOST || !isKey(span)) {
            lyingSize = 0;
            return NONE;
        }
        layLeastMissed(fingers, span);
        return arranger.loss;
    }

    private void layLeastMissed(int fingers, int span) {
        lookAtKeys();
        weighAll();
        keyboard.fingers = fingers;
        keyboard.span = span;
        arranger.arrange();
        for (int note = 0; note < told.notes; note++) {
            lying[note] = arranger.handOf(note);
        }
        lyingSize = told.notes;
    }

    public int forbids(int note, int hand) {
        if (!isLeftOut(note) || !isHand(hand)) {
            return NONE;
        }
        lookAtKeys();
        return keyboard.newClashesWith(note, hand);
    }

    public int giveway(int note, int hand, int what) {
        if (!isLeftOut(note) || !isHand(hand) || what < 0 || what > 1) {
            return NONE;
        }
        lookAtKeys();
        weighAll();
        int set = arranger.fewestInTheWay(note, hand);
        return what == 0 && set != NONE ? Integer.bitCount(set) : set;
    }

    public int letin(int note, int what) {
        if (!isLeftOut(note) || what < 0 || what > 1) {
            return CANT_BE_LET_IN;
        }
        lookAtKeys();
        for (int octaves = 0; octaves <= OCTAVES_MOST; octaves++) {
            int up = keyboard.handForShifted(note, octaves);
            if (up != OUT) {
                return what == 0 ? octaves : up;
            }
            int down = keyboard.handForShifted(note, -octaves);
            if (down != OUT) {
                return what == 0 ? -octaves : down;
            }
        }
        return CANT_BE_LET_IN;
    }

    public int pedals(int what) {
        if (what < 0 || what > 1) {
            return NONE;
        }
        lookAtKeys();
        int set = pedaller.fewest(keyboard);
        return what == 0 && set != NONE ? Integer.bitCount(set) : set;
    }

    public int spread(int hand) {
        if (!isHand(hand)) {
            return NONE;
        }
        lookAtKeys();
        int most = 0;
        for (int beat = 0; beat < told.beats; beat++) {
            most = Math.max(most, keyboard.width(keyboard.heldBy(hand, beat)));
        }
        return most;
    }

    public int leaps(int hand) {
        if (!isHand(hand)) {
            return NONE;
        }
        lookAtKeys();
        int most = 0;
        for (int beat = 1; beat < told.beats; beat++) {
            int ahead = keyboard.heldBy(hand, beat - 1);
            most = Math.max(most, keyboard.leapBetween(ahead, keyboard.heldBy(hand, beat)));
        }
        return most;
    }

    public int blur() {
        lookAtKeys();
        int twos = 0;
        for (int beat = 0; beat < told.beats; beat++) {
            twos += keyboard.blurredAt(beat);
        }
        return twos;
    }

    public int open(int beat) {
        if (!isBeat(beat)) {
            return NONE;
        }
        lookAtKeys();
        return openAt(beat);
    }

    private int openAt(int beat) {
        int sounding = keyboard.soundingAt(beat);
        int loudest = 0;
        for (int note = 0; note < told.notes; note++) {
            if ((sounding >> note & 1) != 0) {
                loudest = Math.max(loudest, now.louds[note]);
            }
        }
        int set = 0;
        for (int note = 0; note < told.notes; note++) {
            if ((sounding >> note & 1) != 0 && loudest - now.louds[note] <= told.ear) {
                set |= 1 << note;
            }
        }
        return set;
    }

    public int lost() {
        lookAtKeys();
        int set = 0;
        for (int note = 0; note < told.notes; note++) {
            boolean tune = told.roleOf(note) == TUNE_ROLE && now.hands[note] != OUT;
            if (tune && (openAt(told.begins[note]) >> note & 1) == 0) {
                set |= 1 << note;
            }
        }
        return set;
    }

    public int gaps() {
        lookAtKeys();
        int tunes = 0;
        for (int note = 0; note < told.notes; note++) {
            if (told.roleOf(note) == TUNE_ROLE) {
                tunes |= 1 << note;
            }
        }
        int set = 0;
        for (int beat = 0; beat < told.beats; beat++) {
            if ((keyboard.soundingAt(beat) & tunes) == 0) {
                set |= 1 << beat;
            }
        }
        return set;
    }

    public int easier(int note) {
        if (!isNote(note) || now.hands[note] == OUT) {
            return NONE;
        }
        lookAtKeys();
        int without = ~(1 << note);
        int before = keyboard.clashingBeats(keyboard.left, keyboard.right);
        int after = keyboard.clashingBeats(keyboard.left & without, keyboard.right & without);
        return Integer.bitCount(before) - Integer.bitCount(after);
    }

    public int thickest() {
        lookAtKeys();
        return keyboard.fullestBeat(keyboard.left | keyboard.right);
    }

    public int busiest(int hand) {
        if (!isHand(hand)) {
            return NONE;
        }
        lookAtKeys();
        return keyboard.fullestBeat(keyboard.setOf(hand));
    }

    public int law(int n) {
        if (!isKey(n)) {
            return NONE;
        }
        lookAtKeys();
        keyboard.span = n;
        return Integer.bitCount(keyboard.clashingBeats(keyboard.left, keyboard.right));
    }

    public int dearest() {
        int dearest = NONE;
        int most = NONE;
        for (int note = 0; note < told.notes; note++) {
            int weight = now.hands[note] == OUT ? missedOf(note) : NONE;
            if (weight > most) {
                most = weight;
                dearest = note;
            }
        }
        return dearest;
    }

    public int could(int hand) {
        if (!isHand(hand)) {
            return NONE;
        }
        lookAtKeys();
        int set = 0;
        for (int note = 0; note < told.notes; note++) {
            if (now.hands[note] == OUT && keyboard.newClashesWith(note, hand) == 0) {
                set |= 1 << note;
            }
        }
        return set;
    }

    public int lies(int i) {
        return i >= 0 && i < lyingSize ? lying[i] : NONE;
    }

    // ---- what was heard

    public int heard(int beat, int key, boolean is) {
        if (!isBeat(beat) || !isKey(key)) {
            return NONE;
        }
        return witness.tell(beat, key, is);
    }

    public boolean untell(int heard) {
        return witness.takeFromNowOn(heard);
    }

    public int later(int by) {
        return witness.goOn(by);
    }

    public int sets(int k) {
        witness.count(told, k);
        return witness.all;
    }

    public int sure(int note, int k) {
        if (!isNote(note)) {
            return NONE;
        }
        witness.count(told, k);
        if (witness.all == 0) {
            return NONE;
        }
        int with = witness.with[note];
        if (with == witness.all) {
            return 1;
        }
        return with == 0 ? 0 : NOT_THE_SAME;
    }

    public int ask(int what, int k) {
        if (what < 0 || what > 1) {
            return NONE;
        }
        witness.count(told, k);
        int best = NONE;
        int fewest = witness.all + 1;
        for (int note = 0; note < told.notes && witness.all > 0; note++) {
            int atMost = Math.max(witness.with[note], witness.all - witness.with[note]);
            if (atMost < fewest) {
                fewest = atMost;
                best = note;
            }
        }
        return what == 0 || best == NONE ? best : fewest;
    }

    // ---- images

    public int image(int box) {
        if (box < 0 || box >= boxes.length) {
            return NONE;
        }
        boxes[box].copy(now);
        boxes[box].kept = true;
        return Integer.bitCount(givenSet());
    }

    public int back(int box) {
        if (!isKept(box)) {
            return NONE;
        }
        now.copy(boxes[box]);
        acts.forget();
        return Integer.bitCount(givenSet());
    }

    public int differ(int box) {
        if (!isKept(box)) {
            return NONE;
        }
        int set = 0;
        for (int note = 0; note < told.notes; note++) {
            if (now.differsAt(note, boxes[box])) {
                set |= 1 << note;
            }
        }
        return set;
    }

    private boolean isKept(int box) {
        return box >= 0 && box < boxes.length && boxes[box].kept;
    }

    public int about(int what) {
        switch (what) {
            case 0:
                return told.notes;
            case 1:
                return told.parts;
            case 2:
                return told.beats;
            case 3:
                return told.span;
            case 4:
                return told.fingers;
            case 5:
                return told.leap;
            case 6:
                return told.ear;
            case 7:
                return now.pedal;
            default:
                return aboutTheRest(what);
        }
    }

    private int aboutTheRest(int what) {
        switch (what) {
            case 8:
                return acts.done;
            case 9:
                return acts.kept - acts.done;
            case 10:
                return witness.size;
            case 11:
                return witness.time;
            case 12:
                return tape.size;
            case 13:
                return told.formula.units;
            case 14:
                return lyingSize;
            case 15:
                return Integer.bitCount(givenSet());
            default:
                return NONE;
        }
    }

    /** The words that stand for themselves, by their numbers. */
    private static final class Word {
        static final int BEATS = 0;
        static final int PART = 1;
        static final int NOTE = 2;
        static final int MISSED = 3;
        static final int SPAN = 4;
        static final int FINGERS = 5;
        static final int LEAP = 6;
        static final int EAR = 7;
        static final int TUNE = 8;
        static final int BASS = 9;
        static final int OF = 10;
        static final int AT = 11;
        static final int OR = 12;
        static final int AND = 13;
        static final int NOT = 14;
        static final int ROLE = 15;
        static final int KEY = 16;
        static final int LONG = 17;
        static final int LOUD = 18;
        static final int DOUBLED = 19;
        static final int BEAT = 20;

        static final int LETTERS_MOST = 8;

        /** In the order of their numbers, each filled up with blanks to as many letters as a word may have. */
        private static final String ALL =
                "beats   part    note    missed  span    fingers leap    ear     tune    bass    of      at      or      and     not     role    key     long    loud    doubled beat    ";

        /** The number of the word that a text has between two places; NONE if none stands there. */
        static int numberOf(byte[] text, int from, int to) {
            for (int number = 0; number <= BEAT && to - from <= LETTERS_MOST; number++) {
                int start = number * LETTERS_MOST;
                boolean stands = true;
                for (int i = 0; stands && i < LETTERS_MOST && start + i < ALL.length(); i++) {
                    int at = from + i;
                    int letter = at >= 0 && at < to && at < text.length ? text[at] : ' ';
                    stands = ALL.charAt(start + i) == letter;
                }
                if (stands) {
                    return number;
                }
            }
            return NONE;
        }
    }

    /** What a text tells; acts leave it alone, for what is HEARD speaks of it. */
    private static final class Score {
        int beats;
        int span;
        int fingers;
        int leap;
        int ear;
        int parts;
        int notes;
        final long[] partNames = new long[PARTS_MOST];
        final int[] roles = new int[PARTS_MOST];
        final long[] noteNames = new long[NOTES_MOST];
        final int[] partOf = new int[NOTES_MOST];
        final int[] begins = new int[NOTES_MOST];
        final int[] keys = new int[NOTES_MOST];
        final int[] lengths = new int[NOTES_MOST];
        final int[] louds = new int[NOTES_MOST];
        final Formula formula = new Formula();

        Score() {
            forget();
        }

        void forget() {
            beats = BEATS_MOST;
            span = 12;
            fingers = FINGERS_MOST;
            leap = 20;
            ear = 2;
            parts = 0;
            notes = 0;
            formula.forget();
        }

        void addPart(long name, int role) {
            if (parts < PARTS_MOST) {
                partNames[parts] = name;
                roles[parts] = role;
                parts++;
            }
        }

        void addNote(long name, int part, int begin, int key, int length, int loud) {
            if (notes < NOTES_MOST) {
                noteNames[notes] = name;
                partOf[notes] = part;
                begins[notes] = begin;
                keys[notes] = key;
                lengths[notes] = length;
                louds[notes] = loud;
                notes++;
            }
        }

        int partNamed(long name) {
            for (int part = 0; part < parts; part++) {
                if (partNames[part] == name) {
                    return part;
                }
            }
            return NONE;
        }

        boolean hasNoteNamed(long name) {
            for (int note = 0; note < notes; note++) {
                if (noteNames[note] == name) {
                    return true;
                }
            }
            return false;
        }

        int notesOf(int part) {
            int set = 0;
            for (int note = 0; note < notes; note++) {
                if (partOf[note] == part) {
                    set |= 1 << note;
                }
            }
            return set;
        }

        int roleOf(int note) {
            int part = note >= 0 && note < notes ? partOf[note] : NONE;
            return part >= 0 && part < parts ? roles[part] : 0;
        }
    }

    /**
     * The formula of missed, operands ahead of what is done with them. A number stands as it is; a
     * fact or an operation stands as its word's number, or its sign, below 0.
     */
    private static final class Formula {
        static final int UNITS_MOST = 30;
        static final int NESTED_MOST = 7;
        /** Each unit may have an operator behind it and as many nots ahead of it as may be nested. */
        private static final int CODE_MOST = UNITS_MOST * (2 + NESTED_MOST);

        int units;
        private int size;
        private final int[] code = new int[CODE_MOST];
        private final int[] stack = new int[UNITS_MOST + 1];
        private final int[] facts = new int[Word.BEAT - Word.ROLE + 1];
        private int depth;

        void forget() {
            units = 0;
            size = 0;
        }

        boolean isTold() {
            return size > 0;
        }

        void put(int what) {
            if (size < CODE_MOST) {
                code[size] = what;
                size++;
            }
        }

        int valueOf(int role, int key, int length, int loud, int doubled, int beat) {
            facts[0] = role;
            facts[Word.KEY - Word.ROLE] = key;
            facts[Word.LONG - Word.ROLE] = length;
            facts[Word.LOUD - Word.ROLE] = loud;
            facts[Word.DOUBLED - Word.ROLE] = doubled;
            facts[Word.BEAT - Word.ROLE] = beat;
            depth = 0;
            for (int i = 0; i < size; i++) {
                step(code[i]);
            }
            return depth > 0 ? stack[0] : 0;
        }

        private void step(int what) {
            int operation = -what;
            if (what >= 0) {
                push(what);
            } else if (operation >= Word.ROLE && operation <= Word.BEAT) {
                push(facts[operation - Word.ROLE]);
            } else if (operation == Word.NOT && depth > 0) {
                stack[depth - 1] = stack[depth - 1] == 0 ? 1 : 0;
            } else if (depth > 1) {
                depth--;
                stack[depth - 1] = joined(operation, stack[depth - 1], stack[depth]);
            }
        }

        private void push(int value) {
            if (depth < stack.length) {
                stack[depth] = value;
                depth++;
            }
        }

        private static int joined(int operation, int a, int b) {
            switch (operation) {
                case '+':
                    return a + b;
                case '-':
                    return a - b;
                case '*':
                    return a * b;
                case '/':
                    return b == 0 ? 0 : a / b;
                case '%':
                    return b == 0 ? 0 : a % b;
                case '<':
                    return a < b ? 1 : 0;
                case '>':
                    return a > b ? 1 : 0;
                case '=':
                    return a == b ? 1 : 0;
                case Word.AND:
                    return a != 0 && b != 0 ? 1 : 0;
                case Word.OR:
                    return a != 0 || b != 0 ? 1 : 0;
                default:
                    return 0;
            }
        }
    }

    /** The bytes that were fed, and their tokens, one at a time; none is looked at before the one ahead of it was taken. */
    private static final class Tape {
        static final int END = 0;
        static final int WORD = 1;
        static final int NAME = 2;
        static final int NUMBER = 3;
        static final int SIGN = 4;
        static final int WRONG = 5;

        private static final int DIGITS_MOST = 4;
        private static final String SIGNS = ";()<>=+-*/%";

        int size;
        private final byte[] bytes = new byte[TAPE_MOST];
        private int next;
        int place;
        int kind;
        /** A word's number, a number, or a sign. */
        int value;
        /** The letters of a word, five bits each. */
        long name;

        void putFourBytes(int number) {
            for (int by = 24; by >= 0 && size < TAPE_MOST; by -= 8) {
                bytes[size] = (byte) (number >> by);
                size++;
            }
        }

        void begin() {
            next = 0;
            step();
        }

        void step() {
            while (next < size && isBlank(at(next))) {
                next++;
            }
            place = next;
            int c = at(next);
            if (c == NONE) {
                kind = END;
            } else if (isLetter(c)) {
                takeWord();
            } else if (isDigit(c)) {
                takeNumber();
            } else {
                kind = SIGNS.indexOf((char) c) >= 0 ? SIGN : WRONG;
                value = c;
                next++;
            }
        }

        private void takeWord() {
            name = 0;
            while (next < size && isLetter(at(next))) {
                name = name << 5 | at(next) - 'a' + 1;
                next++;
            }
            value = Word.numberOf(bytes, place, next);
            kind = value == NONE ? NAME : WORD;
            if (next - place > Word.LETTERS_MOST) {
                kind = WRONG;
            }
        }

        private void takeNumber() {
            value = 0;
            while (next < size && isDigit(at(next))) {
                value = value * 10 + at(next) - '0';
                next++;
            }
            kind = next - place > DIGITS_MOST || isLetter(at(next)) ? WRONG : NUMBER;
        }

        private int at(int index) {
            return index >= 0 && index < size && index < TAPE_MOST ? bytes[index] & 255 : NONE;
        }

        private static boolean isBlank(int c) {
            return c == ' ' || c == '\n';
        }

        private static boolean isLetter(int c) {
            return c >= 'a' && c <= 'z';
        }

        private static boolean isDigit(int c) {
            return c >= '0' && c <= '9';
        }
    }

    /** Reads a text into a draft of a SCORE; at the first FAULT it stops, taking no token more. */
    private static final class Reader {
        private static final int NO_TOKEN = 1;
        private static final int CANT_STAND = 2;
        private static final int TOLD_ALREADY = 3;
        private static final int CANT_BE = 4;
        private static final int NO_SUCH_PART = 5;
        private static final int LOUD_UNTOLD = 5;

        int fault;
        int place = NONE;
        final Tape tape = new Tape();
        private Score draft = new Score();
        /** First words of the lines so far, as bits. */
        private int begun;

        /** The draft goes out as the SCORE, and the one that it replaces is written over next. */
        Score exchange(Score old) {
            Score fresh = draft;
            draft = old;
            return fresh;
        }

        void begin() {
            fault = 0;
            place = NONE;
            begun = 0;
            draft.forget();
            tape.begin();
        }

        boolean goesOn() {
            return fault == 0 && tape.kind != Tape.END;
        }

        void readLine() {
            int word = tape.kind == Tape.WORD ? tape.value : NONE;
            if (!mayBegin(word)) {
                refuse(CANT_STAND);
                return;
            }
            begun |= 1 << word;
            tape.step();
            switch (word) {
                case Word.BEATS:
                    draft.beats = number(1, BEATS_MOST);
                    break;
                case Word.PART:
                    partLine();
                    break;
                case Word.NOTE:
                    noteLine();
                    break;
                case Word.MISSED:
                    either(0);
                    break;
                case Word.SPAN:
                    draft.span = number(0, KEY_MOST);
                    break;
                case Word.FINGERS:
                    draft.fingers = number(1, FINGERS_MOST);
                    break;
                case Word.LEAP:
                    draft.leap = number(0, KEY_MOST);
                    break;
                default:
                    draft.ear = number(0, EAR_MOST);
                    break;
            }
            takeSign(';');
        }

        private boolean mayBegin(int word) {
            switch (word) {
                case Word.BEATS:
                    return begun == 0;
                case Word.PART:
                    return draft.parts < PARTS_MOST;
                case Word.NOTE:
                    return draft.notes < NOTES_MOST;
                default:
                    return word >= Word.MISSED && word <= Word.EAR && (begun >> word & 1) == 0;
            }
        }

        private void partLine() {
            long name = newName(tape.kind == Tape.NAME && draft.partNamed(tape.name) != NONE);
            int role = 0;
            if (isWord(Word.TUNE)) {
                role = TUNE_ROLE;
                tape.step();
            } else if (isWord(Word.BASS)) {
                role = BASS_ROLE;
                tape.step();
            }
            if (fault == 0) {
                draft.addPart(name, role);
            }
        }

        private void noteLine() {
            long name = newName(tape.kind == Tape.NAME && draft.hasNoteNamed(tape.name));
            takeWord(Word.OF);
            int part = knownPart();
            takeWord(Word.AT);
            int begin = number(0, draft.beats - 1);
            takeWord(Word.KEY);
            int key = number(0, KEY_MOST);
            takeWord(Word.LONG);
            int length = number(1, LENGTH_MOST);
            int loud = LOUD_UNTOLD;
            if (isWord(Word.LOUD)) {
                tape.step();
                loud = number(1, LOUD_MOST);
            }
            if (fault == 0) {
                draft.addNote(name, part, begin, key, length, loud);
            }
        }

        private long newName(boolean known) {
            if (fault == 0 && (tape.kind != Tape.NAME || known)) {
                refuse(known ? TOLD_ALREADY : CANT_STAND);
            }
            long name = tape.name;
            if (fault == 0) {
                tape.step();
            }
            return name;
        }

        private int knownPart() {
            int part = tape.kind == Tape.NAME ? draft.partNamed(tape.name) : NONE;
            if (fault == 0 && part == NONE) {
                refuse(tape.kind == Tape.NAME ? NO_SUCH_PART : CANT_STAND);
            }
            if (fault == 0) {
                tape.step();
            }
            return part;
        }

        private int number(int least, int most) {
            if (fault == 0 && tape.kind != Tape.NUMBER) {
                refuse(CANT_STAND);
            }
            int value = tape.value;
            if (fault == 0 && (value < least || value > most)) {
                refuse(CANT_BE);
            }
            if (fault == 0) {
                tape.step();
            }
            return value;
        }

        private boolean isWord(int word) {
            return fault == 0 && tape.kind == Tape.WORD && tape.value == word;
        }

        private boolean isSign(char sign) {
            return fault == 0 && tape.kind == Tape.SIGN && tape.value == sign;
        }

        private void takeWord(int word) {
            if (isWord(word)) {
                tape.step();
            } else {
                refuse(CANT_STAND);
            }
        }

        private void takeSign(char sign) {
            if (isSign(sign)) {
                tape.step();
            } else {
                refuse(CANT_STAND);
            }
        }

        private void refuse(int kind) {
            if (fault == 0) {
                fault = tape.kind == Tape.WRONG ? NO_TOKEN : kind;
                place = tape.place;
            }
        }

        private void either(int within) {
            both(within);
            for (int i = 0; i < TAPE_MOST && isWord(Word.OR); i++) {
                tape.step();
                both(within);
                draft.formula.put(-Word.OR);
            }
        }

        private void both(int within) {
            one(within);
            for (int i = 0; i < TAPE_MOST && isWord(Word.AND); i++) {
                tape.step();
                one(within);
                draft.formula.put(-Word.AND);
            }
        }

        private void one(int within) {
            if (isWord(Word.NOT)) {
                if (within >= Formula.NESTED_MOST) {
                    refuse(CANT_STAND);
                    return;
                }
                tape.step();
                one(within + 1);
                draft.formula.put(-Word.NOT);
                return;
            }
            sum(within);
            if (isSign('<') || isSign('>') || isSign('=')) {
                int relation = tape.value;
                tape.step();
                sum(within);
                draft.formula.put(-relation);
            }
        }

        private void sum(int within) {
            term(within);
            for (int i = 0; i < TAPE_MOST && (isSign('+') || isSign('-')); i++) {
                int sign = tape.value;
                tape.step();
                term(within);
                draft.formula.put(-sign);
            }
        }

        private void term(int within) {
            unit(within);
            for (int i = 0; i < TAPE_MOST && (isSign('*') || isSign('/') || isSign('%')); i++) {
                int sign = tape.value;
                tape.step();
                unit(within);
                draft.formula.put(-sign);
            }
        }

        private void unit(int within) {
            if (fault != 0) {
                return;
            }
            boolean nests = isSign('(');
            boolean fact = tape.kind == Tape.WORD && tape.value >= Word.ROLE && tape.value <= Word.BEAT;
            boolean fits = draft.formula.units < Formula.UNITS_MOST && !(nests && within >= Formula.NESTED_MOST);
            if (!fits || !nests && !fact && tape.kind != Tape.NUMBER) {
                refuse(CANT_STAND);
                return;
            }
            draft.formula.units++;
            int value = tape.value;
            tape.step();
            if (nests) {
                either(within + 1);
                takeSign(')');
            } else {
                draft.formula.put(fact ? -value : value);
            }
        }
    }

    /** How the notes lie now, or lay when they were kept in a BOX. */
    private static final class Laying {
        static final int HAND = 0;
        static final int KEY = 1;
        static final int LENGTH = 2;
        static final int LOUD = 3;
        static final int PEDAL = 4;

        boolean kept;
        int pedal;
        final int[] hands = new int[NOTES_MOST];
        final int[] keys = new int[NOTES_MOST];
        final int[] lengths = new int[NOTES_MOST];
        final int[] louds = new int[NOTES_MOST];

        void follow(Score score) {
            pedal = 0;
            for (int note = 0; note < NOTES_MOST; note++) {
                hands[note] = OUT;
                keys[note] = score.keys[note];
                lengths[note] = score.lengths[note];
                louds[note] = score.louds[note];
            }
        }

        void copy(Laying other) {
            pedal = other.pedal;
            for (int note = 0; note < NOTES_MOST; note++) {
                hands[note] = other.hands[note];
                keys[note] = other.keys[note];
                lengths[note] = other.lengths[note];
                louds[note] = other.louds[note];
            }
        }

        boolean differsAt(int note, Laying other) {
            return hands[note] != other.hands[note]
                    || keys[note] != other.keys[note]
                    || lengths[note] != other.lengths[note]
                    || louds[note] != other.louds[note];
        }

        int setOf(int hand) {
            int set = 0;
            for (int note = 0; note < NOTES_MOST; note++) {
                if (hands[note] == hand) {
                    set |= 1 << note;
                }
            }
            return set;
        }

        int valueOf(int kind, int which) {
            int[] row = rowOf(kind);
            if (kind == PEDAL) {
                return pedal;
            }
            return which >= 0 && which < row.length ? row[which] : 0;
        }

        void put(int kind, int which, int value) {
            int[] row = rowOf(kind);
            if (kind == PEDAL) {
                pedal = value;
            } else if (which >= 0 && which < row.length) {
                row[which] = value;
            }
        }

        private int[] rowOf(int kind) {
            switch (kind) {
                case HAND:
                    return hands;
                case KEY:
                    return keys;
                case LENGTH:
                    return lengths;
                default:
                    return louds;
            }
        }
    }

    /** ACTS that are kept, the oldest first: those done, then those taken back. */
    private static final class Acts {
        int done;
        int kept;
        private final int[] kinds = new int[ACTS_MOST];
        private final int[] whichs = new int[ACTS_MOST];
        private final int[] befores = new int[ACTS_MOST];
        private final int[] afters = new int[ACTS_MOST];

        void forget() {
            done = 0;
            kept = 0;
        }

        void act(Laying laying, int kind, int which, int value) {
            if (done >= ACTS_MOST) {
                dropOldest();
            }
            kinds[done] = kind;
            whichs[done] = which;
            befores[done] = laying.valueOf(kind, which);
            afters[done] = value;
            done++;
            kept = done;
            laying.put(kind, which, value);
        }

        private void dropOldest() {
            done = ACTS_MOST - 1;
            System.arraycopy(kinds, 1, kinds, 0, done);
            System.arraycopy(whichs, 1, whichs, 0, done);
            System.arraycopy(befores, 1, befores, 0, done);
            System.arraycopy(afters, 1, afters, 0, done);
        }

        boolean takeBack(Laying laying) {
            if (done <= 0) {
                return false;
            }
            done--;
            laying.put(kinds[done], whichs[done], befores[done]);
            return true;
        }

        boolean doAgain(Laying laying) {
            if (done >= kept) {
                return false;
            }
            laying.put(kinds[done], whichs[done], afters[done]);
            done++;
            return true;
        }
    }

    /**
     * The keys as hands find them. A note's time does not depend on the hand that has it, so what a
     * hand holds at a beat is its set of notes cut with the set of those whose time the beat is.
     */
    private static final class Keyboard {
        int beats;
        int notes;
        int span;
        int fingers;
        int leap;
        int left;
        int right;
        int pedal;
        final int[] keys = new int[NOTES_MOST];
        private final int[] begins = new int[NOTES_MOST];
        private final int[] lengths = new int[NOTES_MOST];
        private final int[] timely = new int[BEATS_MOST];

        void lay(Score score, Laying laying) {
            beats = score.beats;
            notes = score.notes;
            span = score.span;
            fingers = score.fingers;
            leap = score.leap;
            left = laying.setOf(LEFT);
            right = laying.setOf(RIGHT);
            pedal = laying.pedal;
            for (int note = 0; note < notes; note++) {
                keys[note] = laying.keys[note];
                begins[note] = score.begins[note];
                lengths[note] = laying.lengths[note];
            }
            int since = 0;
            for (int beat = 0; beat < beats; beat++) {
                since = hasPedal(beat) ? beat : since;
                timely[beat] = timelySince(since, beat);
            }
        }

        private boolean hasPedal(int beat) {
            return (pedal >> beat & 1) != 0;
        }

        /** Notes whose time a beat is, if the latest pedal up to it (0: none) was at the beat since. */
        int timelySince(int since, int beat) {
            int set = 0;
            for (int note = 0; note < notes; note++) {
                int begin = begins[note];
                if (begin >= since && begin <= beat && beat < begin + lengths[note]) {
                    set |= 1 << note;
                }
            }
            return set;
        }

        int timelyAt(int beat) {
            return beat >= 0 && beat < beats && beat < BEATS_MOST ? timely[beat] : 0;
        }

        int setOf(int hand) {
            return hand == LEFT ? left : right;
        }

        int heldBy(int hand, int beat) {
            return setOf(hand) & timelyAt(beat);
        }

        int soundingAt(int beat) {
            int set = 0;
            for (int b = 0; b <= beat && b < beats; b++) {
                set = timelyAt(b) | (hasPedal(b) ? set : 0);
            }
            return set & (left | right);
        }

        private int lowest(int set) {
            int key = KEY_MOST;
            for (int note = 0; note < notes; note++) {
                if ((set >> note & 1) != 0 && keys[note] < key) {
                    key = keys[note];
                }
            }
            return key;
        }

        private int highest(int set) {
            int key = 0;
            for (int note = 0; note < notes; note++) {
                if ((set >> note & 1) != 0 && keys[note] > key) {
                    key = keys[note];
                }
            }
            return key;
        }

        int width(int set) {
            return set == 0 ? 0 : highest(set) - lowest(set);
        }

        int leapBetween(int ahead, int set) {
            return ahead == 0 || set == 0 ? 0 : Math.abs(lowest(set) - lowest(ahead));
        }

        private boolean hasKeyTwice(int set) {
            for (int note = 1; note < notes; note++) {
                boolean in = (set >> note & 1) != 0;
                for (int other = 0; in && other < note; other++) {
                    if ((set >> other & 1) != 0 && keys[note] == keys[other]) {
                        return true;
                    }
                }
            }
            return false;
        }

        private int clashesOfHand(int ahead, int set) {
            if (set == 0) {
                return 0;
            }
            int low = lowest(set);
            int clashes = Integer.bitCount(set) > fingers ? TOO_MANY : 0;
            clashes |= highest(set) - low > span ? TOO_WIDE : 0;
            boolean tooFar = ahead != 0 && Math.abs(low - lowest(ahead)) > leap;
            return tooFar ? clashes | TOO_FAR : clashes;
        }

        /** CLASHES at a beat, by the notes whose time the one ahead of it, and it, is. */
        int clashesBetween(int lefts, int rights, int ahead, int here) {
            int inLeft = lefts & here;
            int inRight = rights & here;
            int clashes = clashesOfHand(lefts & ahead, inLeft) | clashesOfHand(rights & ahead, inRight);
            if (inLeft != 0 && inRight != 0 && highest(inLeft) >= lowest(inRight)) {
                clashes |= CROSSED;
            }
            return clashes | (hasKeyTwice(inLeft | inRight) ? KEY_TWICE : 0);
        }

        int clashesAt(int lefts, int rights, int beat) {
            return clashesBetween(lefts, rights, timelyAt(beat - 1), timelyAt(beat));
        }

        int clashingBeats(int lefts, int rights) {
            int set = 0;
            for (int beat = 0; beat < beats; beat++) {
                if (clashesAt(lefts, rights, beat) != 0) {
                    set |= 1 << beat;
                }
            }
            return set;
        }

        boolean canBePlayed(int lefts, int rights) {
            for (int beat = 0; beat < beats; beat++) {
                if (clashesAt(lefts, rights, beat) != 0) {
                    return false;
                }
            }
            return true;
        }

        int newClashesWith(int note, int hand) {
            int lefts = hand == LEFT ? left | 1 << note : left;
            int rights = hand == RIGHT ? right | 1 << note : right;
            int clashes = 0;
            for (int beat = 0; beat < beats; beat++) {
                clashes |= clashesAt(lefts, rights, beat) & ~clashesAt(left, right, beat);
            }
            return clashes;
        }

        /** The hand that could play a note shifted so; OUT if none could. */
        int handForShifted(int note, int octaves) {
            int key = keys[note];
            int shifted = key + octaves * OCTAVE;
            if (!isKey(shifted)) {
                return OUT;
            }
            int bit = 1 << note;
            keys[note] = shifted;
            int hand = canBePlayed(left | bit, right) ? LEFT : canBePlayed(left, right | bit) ? RIGHT : OUT;
            keys[note] = key;
            return hand;
        }

        int blurredAt(int beat) {
            int sounding = soundingAt(beat);
            int held = timelyAt(beat);
            int twos = 0;
            for (int note = 1; note < notes; note++) {
                for (int other = 0; other < note; other++) {
                    int both = 1 << note | 1 << other;
                    int apart = Math.abs(keys[note] - keys[other]);
                    boolean near = apart == 1 || apart == 2;
                    if (near && (sounding & both) == both && (held & both) != both) {
                        twos++;
                    }
                }
            }
            return twos;
        }

        int fullestBeat(int set) {
            int fullest = 0;
            int most = 0;
            for (int beat = 0; beat < beats; beat++) {
                int size = Integer.bitCount(set & timelyAt(beat));
                if (size > most) {
                    most = size;
                    fullest = beat;
                }
            }
            return fullest;
        }
    }

    /** Seeks the notes that are least missed, over the keyboard as it is laid when it is asked. */
    private static final class Arranger {
        final Keyboard keyboard = new Keyboard();
        final int[] missed = new int[NOTES_MOST];
        int loss;
        int left;
        int right;
        /** By note: those that can't be in the same hand, in the right one if it is in the left, and the reverse. */
        private final int[] barsSame = new int[NOTES_MOST];
        private final int[] barsRight = new int[NOTES_MOST];
        private final int[] barsLeft = new int[NOTES_MOST];
        /** By note: beats such that it is the last note on which the leap to them depends. */
        private final int[] settledLeaps = new int[NOTES_MOST];

        int handOf(int note) {
            return (left >> note & 1) != 0 ? LEFT : (right >> note & 1) != 0 ? RIGHT : OUT;
        }

        void arrange() {
            for (int note = 0; note < keyboard.notes; note++) {
                findBars(note);
                findSettledLeaps(note);
            }
            loss = NOTES_MOST * MISSED_MOST + 1;
            left = 0;
            right = 0;
            search(0, 0, 0, 0);
        }

        private void findSettledLeaps(int note) {
            settledLeaps[note] = 0;
            for (int beat = 1; beat < keyboard.beats; beat++) {
                int dependsOn = keyboard.timelyAt(beat - 1) | keyboard.timelyAt(beat);
                settledLeaps[note] |= dependsOn >> note == 1 ? 1 << beat : 0;
            }
        }

        private void findBars(int note) {
            int together = 0;
            for (int beat = 0; beat < keyboard.beats; beat++) {
                int set = keyboard.timelyAt(beat);
                together |= (set >> note & 1) != 0 ? set : 0;
            }
            barsSame[note] = 0;
            barsRight[note] = 0;
            barsLeft[note] = 0;
            for (int other = 0; other < keyboard.notes; other++) {
                if (other != note && (together >> other & 1) != 0) {
                    int above = keyboard.keys[other] - keyboard.keys[note];
                    barsSame[note] |= above == 0 || Math.abs(above) > keyboard.span ? 1 << other : 0;
                    barsRight[note] |= above <= 0 ? 1 << other : 0;
                    barsLeft[note] |= above >= 0 ? 1 << other : 0;
                }
            }
        }

        /** In the order left, right, out: the first of like ones is met first, and stays. */
        private void search(int note, int lefts, int rights, int lost) {
            if (lost >= loss) {
                return;
            }
            if (note >= keyboard.notes) {
                loss = lost;
                left = lefts;
                right = rights;
                return;
            }
            int bit = 1 << note;
            if (isFreeLeft(note, lefts, rights) && fingersReach(note, lefts | bit) && leapsFit(note, lefts | bit, rights)) {
                search(note + 1, lefts | bit, rights, lost);
            }
            if (isFreeRight(note, lefts, rights) && fingersReach(note, rights | bit) && leapsFit(note, lefts, rights | bit)) {
                search(note + 1, lefts, rights | bit, lost);
            }
            if (leapsFit(note, lefts, rights)) {
                search(note + 1, lefts, rights, lost + missed[note]);
            }
        }

        private boolean isFreeLeft(int note, int lefts, int rights) {
            return (lefts & barsSame[note] | rights & barsRight[note]) == 0;
        }

        private boolean isFreeRight(int note, int lefts, int rights) {
            return (rights & barsSame[note] | lefts & barsLeft[note]) == 0;
        }

        private boolean fingersReach(int note, int hand) {
            boolean enough = Integer.bitCount(hand) <= keyboard.fingers;
            for (int beat = 0; !enough && beat < keyboard.beats; beat++) {
                int set = keyboard.timelyAt(beat);
                if ((set >> note & 1) != 0 && Integer.bitCount(set & hand) > keyboard.fingers) {
                    return false;
                }
            }
            return true;
        }

        /** A lower note may yet mend a leap: so a leap is judged when no note to come can change it. */
        private boolean leapsFit(int note, int lefts, int rights) {
            int settled = settledLeaps[note];
            for (int beat = 1; settled != 0 && beat < keyboard.beats; beat++) {
                if ((settled >> beat & 1) != 0) {
                    int ahead = keyboard.timelyAt(beat - 1);
                    int here = keyboard.timelyAt(beat);
                    int ofLeft = keyboard.leapBetween(lefts & ahead, lefts & here);
                    int ofRight = keyboard.leapBetween(rights & ahead, rights & here);
                    if (ofLeft > keyboard.leap || ofRight > keyboard.leap) {
                        return false;
                    }
                }
            }
            return true;
        }

        /** The notes that GIVE WAY, as bits; NONE if it can't be so. */
        int fewestInTheWay(int note, int hand) {
            int lefts = keyboard.left | (hand == LEFT ? 1 << note : 0);
            int rights = keyboard.right | (hand == RIGHT ? 1 << note : 0);
            int given = keyboard.left | keyboard.right;
            int best = NONE;
            for (int set = 0; set < 1 << keyboard.notes; set++) {
                boolean better = (set & ~given) == 0 && (best == NONE || isLessMissed(set, best));
                if (better && keyboard.canBePlayed(lefts & ~set, rights & ~set)) {
                    best = set;
                }
            }
            return best;
        }

        private boolean isLessMissed(int set, int than) {
            int size = Integer.bitCount(set);
            int thanSize = Integer.bitCount(than);
            return size < thanSize || size == thanSize && missedTogether(set) < missedTogether(than);
        }

        private int missedTogether(int set) {
            int sum = 0;
            for (int note = 0; note < keyboard.notes; note++) {
                sum += (set >> note & 1) != 0 ? missed[note] : 0;
            }
            return sum;
        }
    }

    /**
     * Seeks the fewest pedals. What is held at a beat depends on the latest pedal up to it alone, so
     * beat by beat the best set is kept for each beat that may have been the latest (0: none yet).
     */
    private static final class Pedaller {
        private final int[] bests = new int[BEATS_MOST];

        int fewest(Keyboard keyboard) {
            bests[0] = isFree(keyboard, 0, 0, 0) ? 0 : NONE;
            for (int beat = 1; beat < keyboard.beats; beat++) {
                bests[beat] = bestWithPedalAt(keyboard, beat);
                for (int since = 0; since < beat; since++) {
                    if (!isFree(keyboard, beat, since, since)) {
                        bests[since] = NONE;
                    }
                }
            }
            int best = NONE;
            for (int since = 0; since < keyboard.beats; since++) {
                best = better(best, bests[since]);
            }
            return best;
        }

        private int bestWithPedalAt(Keyboard keyboard, int beat) {
            int best = NONE;
            for (int since = 0; since < beat; since++) {
                if (bests[since] != NONE && isFree(keyboard, beat, since, beat)) {
                    best = better(best, bests[since] | 1 << beat);
                }
            }
            return best;
        }

        private static boolean isFree(Keyboard keyboard, int beat, int sinceAhead, int since) {
            int ahead = keyboard.timelySince(sinceAhead, beat - 1);
            int here = keyboard.timelySince(since, beat);
            return keyboard.clashesBetween(keyboard.left, keyboard.right, ahead, here) == 0;
        }

        private static int better(int set, int other) {
            if (set == NONE || other == NONE) {
                return set == NONE ? other : set;
            }
            int fewer = Integer.bitCount(set) - Integer.bitCount(other);
            return fewer < 0 || fewer == 0 && set < other ? set : other;
        }
    }

    /** What was HEARD, when it was TOLD and UNTOLD, and which sets of notes it leaves. */
    private static final class Witness {
        int size;
        int time;
        int all;
        /** By note: how many of all the sets it is in. */
        final int[] with = new int[NOTES_MOST];
        private final int[] beats = new int[HEARD_MOST];
        private final int[] keys = new int[HEARD_MOST];
        private final boolean[] was = new boolean[HEARD_MOST];
        private final int[] toldAt = new int[HEARD_MOST];
        private final int[] untoldAt = new int[HEARD_MOST];
        /** Sets of which one note at least was played, by what counts. */
        private final int[] someOf = new int[HEARD_MOST];
        private int somes;
        private int noneOf;

        void forget() {
            size = 0;
        }

        int tell(int beat, int key, boolean is) {
            if (size >= HEARD_MOST) {
                return NONE;
            }
            beats[size] = beat;
            keys[size] = key;
            was[size] = is;
            toldAt[size] = time;
            untoldAt[size] = NONE;
            size++;
            return size - 1;
        }

        boolean takeFromNowOn(int heard) {
            if (heard < 0 || heard >= size || untoldAt[heard] != NONE) {
                return false;
            }
            untoldAt[heard] = time;
            return true;
        }

        int goOn(int by) {
            if (by < 0 || by > LATER_MOST || time + by > TIME_MOST) {
                return NONE;
            }
            time += by;
            return time;
        }

        void count(Score score, int k) {
            gather(score, k);
            all = 0;
            for (int note = 0; note < NOTES_MOST; note++) {
                with[note] = 0;
            }
            for (int set = 0; set < 1 << score.notes; set++) {
                if (isSo(set)) {
                    countIn(set);
                }
            }
        }

        private void gather(Score score, int k) {
            somes = 0;
            noneOf = 0;
            for (int heard = 0; heard < size; heard++) {
                boolean gone = untoldAt[heard] != NONE && untoldAt[heard] <= k;
                if (toldAt[heard] <= k && !gone) {
                    int set = soundersOf(score, beats[heard], keys[heard]);
                    if (was[heard]) {
                        someOf[somes] = set;
                        somes++;
                    } else {
                        noneOf |= set;
                    }
                }
            }
        }

        private static int soundersOf(Score score, int beat, int key) {
            int set = 0;
            for (int note = 0; note < score.notes; note++) {
                int begin = score.begins[note];
                if (score.keys[note] == key && begin <= beat && beat < begin + score.lengths[note]) {
                    set |= 1 << note;
                }
            }
            return set;
        }

        private boolean isSo(int set) {
            if ((set & noneOf) != 0) {
                return false;
            }
            for (int i = 0; i < somes; i++) {
                if ((set & someOf[i]) == 0) {
                    return false;
                }
            }
            return true;
        }

        private void countIn(int set) {
            all++;
            for (int note = 0; note < NOTES_MOST; note++) {
                with[note] += set >> note & 1;
            }
        }
    }
}
