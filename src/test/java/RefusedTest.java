import java.util.ArrayList;
import java.util.List;

/**
 * Every call that the document refuses: what it answers, and that nothing was done by it. An object to
 * which much was done is compared with its twin, to which the same was done but for the refused call.
 */
public final class RefusedTest {
    private static final Tally TALLY = new Tally("RefusedTest");
    private static final int NONE = NinetyPlayers.NONE;
    private static final int CANT = -100;
    private static final int LEAST = Integer.MIN_VALUE;
    private static final int MOST = Integer.MAX_VALUE;
    private static final int[] NO_BEATS = {-1, 4, 12, LEAST, MOST};
    private static final int[] NO_NOTES = {-1, 4, 10, LEAST, MOST};
    private static final int[] NO_HANDS = {0, -1, 3, LEAST, MOST};
    private static final int[] NO_KEYS = {-1, 88, LEAST, MOST};

    private static final String TEXT = "beats 4;part p tune;part q bass;span 12;fingers 2;leap 15;ear 2;missed loud+key;"
            + "note a of p at 0 key 40 long 2 loud 6;note b of p at 2 key 44 long 2;note c of q at 0 key 20 long 4 loud 4;"
            + "note d of q at 1 key 87 long 1 loud 9;";

    private interface Call {
        long on(NinetyPlayers x);
    }

    private record Row(String sentence, String name, Call call, long due) {
    }

    private static final List<Row> ROWS = new ArrayList<>();

    public static void main(String[] args) {
        newObject();
        rowsOfTheText();
        rowsOfWhatIsThere();
        rowsOfActs();
        rowsOfWhatWouldBe();
        rowsOfHearing();
        rowsOfBoxes();
        for (Row row : ROWS) {
            nothingIsDone(row);
        }
        questionsDoNothing();
        feedBounds();
        endBounds();
        scoreWithAFault();
        scoreAnew();
        faultOfTheLatest();
        noneToUndoOrRedo();
        giveAsItIs();
        shiftToTheEnds();
        louderAndLastBounds();
        pedalComesAndGoes();
        versionLiesThere();
        childLiesThere();
        liesBounds();
        heardBounds();
        untellBounds();
        imagesBounds();
        differBounds();
        backBounds();
        aboutAll();
        TALLY.end();
    }

    /** Notes 0 and 2 are given, 1 and 3 left out; of four acts one is taken back; boxes 0 and 2 are kept. */
    private static NinetyPlayers stage() {
        NinetyPlayers x = Tally.of(TEXT);
        x.later(2);
        x.heard(0, 40, true);
        x.later(1);
        x.heard(1, 20, false);
        x.untell(0);
        x.later(1);
        x.louder(3, 1);
        x.image(2);
        x.back(2);
        x.give(0, 2);
        x.image(0);
        x.give(2, 1);
        x.pedal(1);
        x.last(1, 3);
        x.undo();
        x.version(0);
        Tally.tell(x, "span 88;");
        Tally.put(x, "part z;part y;");
        return x;
    }

    private static void row(String sentence, String name, Call call, long due) {
        ROWS.add(new Row(sentence, name, call, due));
    }

    private static void nothingIsDone(Row row) {
        NinetyPlayers x = stage();
        NinetyPlayers twin = stage();
        TALLY.due(row.sentence, row.name, row.call.on(x), row.due);
        TALLY.same(row.sentence + ": nothing is done", row.name, View.of(x, true), View.of(twin, true));
        TALLY.same(row.sentence + ": nothing is done", row.name, View.bringOut(x), View.bringOut(twin));
    }

    private static void newObject() {
        NinetyPlayers x = new NinetyPlayers();
        int[] due = {0, 0, 12, 12, 5, 20, 2, 0, 0, 0, 0, 0, 0, 0, 0, 0};
        for (int what = 0; what < due.length; what++) {
            TALLY.due("An empty SCORE (12 beats)", "about(" + what + ")", x.about(what), due[what]);
        }
        for (int beat = 0; beat < 12; beat++) {
            TALLY.due("An empty SCORE (12 beats)", "sounds, clash, open, held", x.sounds(beat) | x.clash(beat) | x.open(beat)
                    | x.held(beat, 1) | x.held(beat, 2), 0);
        }
        TALLY.due("An empty SCORE (12 beats)", "sounds(12)", x.sounds(12), NONE);
        long[] none = {x.note(0, 0), x.part(0, 0), x.give(0, 1), x.shift(0, 1), x.louder(0, 1), x.last(0, 1), x.forbids(0, 1),
            x.giveway(0, 1, 0), x.easier(0), x.dearest(), x.lies(0), x.sure(0, 0), x.ask(0, 0), x.back(0), x.differ(0), x.fault(1)};
        for (int i = 0; i < none.length; i++) {
            TALLY.due("An empty SCORE", "NONE, call " + i, none[i], NONE);
        }
        long[] zero = {x.clashes(), x.loss(), x.version(0), x.version(1), x.child(1, 0), x.pedals(0), x.pedals(1), x.spread(1), x.leaps(2),
            x.blur(), x.lost(), x.thickest(), x.busiest(1), x.law(0), x.could(1), x.could(2), x.image(0), x.back(0), x.differ(0), x.fault(0)};
        for (int i = 0; i < zero.length; i++) {
            TALLY.due("An empty SCORE", "0, call " + i, zero[i], 0);
        }
        TALLY.due("An empty SCORE", "gaps()", x.gaps(), 4095);
        TALLY.due("An empty SCORE", "sets(0)", x.sets(0), 1);
        TALLY.due("An empty SCORE", "letin(0, 0)", x.letin(0, 0), CANT);
        TALLY.due("An empty SCORE", "undo()", x.undo(), false);
        TALLY.due("An empty SCORE", "redo()", x.redo(), false);
        TALLY.due("An empty SCORE", "untell(0)", x.untell(0), false);
        TALLY.due("An empty SCORE (12 beats)", "pedal(11)", x.pedal(11), 2048);
        TALLY.due("An empty SCORE (12 beats)", "pedal(12)", x.pedal(12), NONE);
        TALLY.due("There is none", "NONE", NinetyPlayers.NONE, -1);
    }

    // ---- refused calls, row by row

    private static void rowsOfTheText() {
        for (int n : new int[] {-1, 15, 1600, LEAST, MOST}) {
            row("end: NONE, doing nothing, if it has not so many, or n is below 0", "end(" + n + ")", x -> x.end(n), NONE);
        }
        row("end: The TAPE has its first n bytes", "end(14)", x -> x.end(14), 14);
        for (int what : new int[] {-1, 2, LEAST, MOST}) {
            row("fault: NONE for another what", "fault(" + what + ")", x -> x.fault(what), NONE);
        }
        row("fault: its FAULT", "fault(0)", x -> x.fault(0), 4);
        row("fault: its place", "fault(1)", x -> x.fault(1), 5);
    }

    private static void rowsOfWhatIsThere() {
        for (int note : NO_NOTES) {
            for (int what = 0; what < 8; what++) {
                int which = what;
                row("note: NONE if there is none such", "note(" + note + ", " + what + ")", x -> x.note(note, which), NONE);
            }
        }
        for (int what : new int[] {-1, 8, LEAST, MOST}) {
            row("note: NONE for another what", "note(0, " + what + ")", x -> x.note(0, what), NONE);
            row("note: NONE for another what", "note(3, " + what + ")", x -> x.note(3, what), NONE);
        }
        for (int part : new int[] {-1, 2, 4, LEAST, MOST}) {
            for (int what = 0; what < 3; what++) {
                int which = what;
                row("part: NONE if there is none such", "part(" + part + ", " + what + ")", x -> x.part(part, which), NONE);
            }
        }
        for (int what : new int[] {-1, 3, LEAST, MOST}) {
            row("part: NONE for another what", "part(0, " + what + ")", x -> x.part(0, what), NONE);
            row("part: NONE for another what", "part(1, " + what + ")", x -> x.part(1, what), NONE);
        }
        for (int beat : NO_BEATS) {
            row("held: NONE if one can't be", "held(" + beat + ", 1)", x -> x.held(beat, 1), NONE);
            row("held: NONE if one can't be", "held(" + beat + ", 2)", x -> x.held(beat, 2), NONE);
            row("sounds: NONE if there is none such", "sounds(" + beat + ")", x -> x.sounds(beat), NONE);
            row("clash: NONE if there is none such", "clash(" + beat + ")", x -> x.clash(beat), NONE);
            row("open: NONE if there is none such", "open(" + beat + ")", x -> x.open(beat), NONE);
        }
        for (int hand : NO_HANDS) {
            row("held: NONE if one can't be", "held(0, " + hand + ")", x -> x.held(0, hand), NONE);
        }
    }

    private static void rowsOfActs() {
        for (int note : NO_NOTES) {
            for (int hand = 0; hand < 3; hand++) {
                int to = hand;
                row("give: NONE, doing nothing, if one can't be", "give(" + note + ", " + hand + ")", x -> x.give(note, to), NONE);
            }
            row("shift: NONE, doing nothing, if one can't be", "shift(" + note + ", 1)", x -> x.shift(note, 1), NONE);
            row("louder: NONE, doing nothing, if one can't be", "louder(" + note + ", 9)", x -> x.louder(note, 9), NONE);
            row("last: NONE, doing nothing, if one can't be", "last(" + note + ", 9)", x -> x.last(note, 9), NONE);
        }
        for (int hand : new int[] {-1, 3, LEAST, MOST}) {
            row("give: NONE, doing nothing, if one can't be", "give(0, " + hand + ")", x -> x.give(0, hand), NONE);
        }
        row("give: NONE, doing nothing, if it is so", "give(0, 2)", x -> x.give(0, 2), NONE);
        row("give: NONE, doing nothing, if it is so", "give(2, 1)", x -> x.give(2, 1), NONE);
        row("give: NONE, doing nothing, if it is so", "give(1, 0)", x -> x.give(1, 0), NONE);
        // note 0 has key 40, note 2 key 20, note 3 key 87; 357913942 twelves wrap around to 8
        int[][] shifts = {{0, 0}, {0, 8}, {0, -8}, {0, LEAST}, {0, MOST}, {0, 4}, {0, -4}, {2, -2}, {2, 6}, {3, 1}, {3, -8}, {0, 357913942},
            {0, -357913942}, {0, 7}, {0, -7}};
        for (int[] shift : shifts) {
            row("shift: NONE, doing nothing, if it would not be 0 .. 87, or one can't be", "shift(" + shift[0] + ", " + shift[1] + ")",
                    x -> x.shift(shift[0], shift[1]), NONE);
        }
        for (int loud : new int[] {0, -1, 10, LEAST, MOST}) {
            row("louder: NONE, doing nothing, if one can't be", "louder(0, " + loud + ")", x -> x.louder(0, loud), NONE);
        }
        row("louder: NONE, doing nothing, if it is so", "louder(0, 6)", x -> x.louder(0, 6), NONE);
        row("louder: NONE, doing nothing, if it is so", "louder(3, 1)", x -> x.louder(3, 1), NONE);
        for (int beats : new int[] {0, -1, 13, LEAST, MOST}) {
            row("last: NONE, doing nothing, if one can't be", "last(0, " + beats + ")", x -> x.last(0, beats), NONE);
        }
        row("last: NONE, doing nothing, if it is so", "last(0, 2)", x -> x.last(0, 2), NONE);
        row("last: NONE, doing nothing, if it is so", "last(1, 2)", x -> x.last(1, 2), NONE);
        for (int beat : NO_BEATS) {
            row("pedal: NONE, doing nothing, if there is none such", "pedal(" + beat + ")", x -> x.pedal(beat), NONE);
        }
    }

    private static void rowsOfWhatWouldBe() {
        for (int note : NO_NOTES) {
            row("forbids: NONE if one can't be", "forbids(" + note + ", 1)", x -> x.forbids(note, 1), NONE);
            row("giveway: NONE if one can't be", "giveway(" + note + ", 1, 0)", x -> x.giveway(note, 1, 0), NONE);
            row("giveway: NONE if one can't be", "giveway(" + note + ", 2, 1)", x -> x.giveway(note, 2, 1), NONE);
            row("letin: -100 if one can't be", "letin(" + note + ", 0)", x -> x.letin(note, 0), CANT);
            row("letin: -100 if one can't be", "letin(" + note + ", 1)", x -> x.letin(note, 1), CANT);
            row("easier: NONE if there is none such", "easier(" + note + ")", x -> x.easier(note), NONE);
        }
        for (int hand : NO_HANDS) {
            row("forbids: NONE if one can't be", "forbids(1, " + hand + ")", x -> x.forbids(1, hand), NONE);
            row("giveway: NONE if one can't be", "giveway(1, " + hand + ", 0)", x -> x.giveway(1, hand, 0), NONE);
            row("giveway: NONE if one can't be", "giveway(1, " + hand + ", 1)", x -> x.giveway(1, hand, 1), NONE);
            row("spread: NONE if there is no such HAND", "spread(" + hand + ")", x -> x.spread(hand), NONE);
            row("leaps: NONE if there is no such HAND", "leaps(" + hand + ")", x -> x.leaps(hand), NONE);
            row("busiest: NONE if there is no such HAND", "busiest(" + hand + ")", x -> x.busiest(hand), NONE);
            row("could: NONE if there is no such HAND", "could(" + hand + ")", x -> x.could(hand), NONE);
        }
        for (int given : new int[] {0, 2}) {
            for (int hand = 1; hand < 3; hand++) {
                int to = hand;
                row("forbids: NONE if it is given to a HAND now", "forbids(" + given + ", " + hand + ")", x -> x.forbids(given, to), NONE);
                row("giveway: NONE if it is given to a HAND now", "giveway(" + given + ", " + hand + ", 0)", x -> x.giveway(given, to, 0), NONE);
                row("giveway: NONE if it is given to a HAND now", "giveway(" + given + ", " + hand + ", 1)", x -> x.giveway(given, to, 1), NONE);
            }
            row("letin: -100 if it is given to a HAND now", "letin(" + given + ", 0)", x -> x.letin(given, 0), CANT);
            row("letin: -100 if it is given to a HAND now", "letin(" + given + ", 1)", x -> x.letin(given, 1), CANT);
        }
        for (int what : new int[] {-1, 2, LEAST, MOST}) {
            row("giveway: NONE for another what", "giveway(1, 1, " + what + ")", x -> x.giveway(1, 1, what), NONE);
            row("letin: -100 for another what", "letin(1, " + what + ")", x -> x.letin(1, what), CANT);
            row("pedals: NONE for another what", "pedals(" + what + ")", x -> x.pedals(what), NONE);
        }
        row("easier: NONE if it is left out", "easier(1)", x -> x.easier(1), NONE);
        row("easier: NONE if it is left out", "easier(3)", x -> x.easier(3), NONE);
        for (int n : NO_KEYS) {
            row("law: NONE for another n", "law(" + n + ")", x -> x.law(n), NONE);
        }
        for (int i : new int[] {-1, 4, 10, LEAST, MOST}) {
            row("lies: NONE if there is none such", "lies(" + i + ")", x -> x.lies(i), NONE);
        }
    }

    private static void rowsOfHearing() {
        for (int beat : NO_BEATS) {
            row("heard: NONE, doing nothing, if one can't be", "heard(" + beat + ", 40, false)", x -> x.heard(beat, 40, false), NONE);
        }
        for (int key : NO_KEYS) {
            row("heard: NONE, doing nothing, if one can't be", "heard(0, " + key + ", true)", x -> x.heard(0, key, true), NONE);
        }
        for (int heard : new int[] {-1, 2, 30, LEAST, MOST}) {
            row("untell: false if there is none such", "untell(" + heard + ")", x -> x.untell(heard) ? 1 : 0, 0);
        }
        row("untell: false if it is so already", "untell(0)", x -> x.untell(0) ? 1 : 0, 0);
        for (int by : new int[] {-1, 1001, LEAST, MOST}) {
            row("later: NONE, doing nothing, for another number", "later(" + by + ")", x -> x.later(by), NONE);
        }
        row("later: So much later (0 .. 1000): the TIME", "later(0)", x -> x.later(0), 4);
        for (int note : NO_NOTES) {
            row("sure: NONE if there is none such", "sure(" + note + ", 4)", x -> x.sure(note, 4), NONE);
        }
        for (int what : new int[] {-1, 2, LEAST, MOST}) {
            row("ask: NONE for another what", "ask(" + what + ", 4)", x -> x.ask(what, 4), NONE);
        }
    }

    private static void rowsOfBoxes() {
        for (int box : new int[] {-1, 3, LEAST, MOST}) {
            row("image: NONE if there is none such", "image(" + box + ")", x -> x.image(box), NONE);
        }
        for (int box : new int[] {-1, 1, 3, LEAST, MOST}) {
            row("back: NONE, doing nothing, if nothing was", "back(" + box + ")", x -> x.back(box), NONE);
            row("differ: NONE if nothing was", "differ(" + box + ")", x -> x.differ(box), NONE);
        }
        for (int what : new int[] {-1, 16, LEAST, MOST}) {
            row("about: NONE for another what", "about(" + what + ")", x -> x.about(what), NONE);
        }
    }

    /** "(By what is now; nothing is done.)" */
    private static void questionsDoNothing() {
        NinetyPlayers x = stage();
        for (int beat = 0; beat < 4; beat++) {
            x.held(beat, 1);
            x.sounds(beat);
            x.clash(beat);
            x.open(beat);
        }
        for (int hand = 1; hand <= 2; hand++) {
            x.spread(hand);
            x.leaps(hand);
            x.busiest(hand);
            x.could(hand);
            for (int note = 0; note < 4; note++) {
                x.forbids(note, hand);
                x.giveway(note, hand, 0);
                x.giveway(note, hand, 1);
                x.letin(note, hand - 1);
                x.easier(note);
                x.note(note, 7);
                x.sure(note, hand);
                x.ask(hand - 1, note);
            }
            x.pedals(hand - 1);
            x.part(hand - 1, 2);
        }
        x.law(0);
        x.law(87);
        x.clashes();
        x.loss();
        x.blur();
        x.lost();
        x.gaps();
        x.thickest();
        x.dearest();
        NinetyPlayers twin = stage();
        TALLY.same("nothing is done", "all questions", View.of(x, true), View.of(twin, true));
        TALLY.same("nothing is done", "all questions", View.bringOut(x), View.bringOut(twin));
        NinetyPlayers ways = stage();
        ways.version(0);
        ways.version(1);
        ways.version(2);
        ways.child(1, 0);
        ways.child(5, 87);
        ways.child(0, 0);
        TALLY.same("nothing is done", "VERSION, CHILD", View.of(ways, false), View.of(stage(), false));
        TALLY.same("nothing is done", "VERSION, CHILD", View.bringOut(ways), View.bringOut(stage()));
    }

    // ---- promise by promise: what is there after a call

    private static void feedBounds() {
        String s = "feed: NONE, and nothing comes, if there would be more than 1,600";
        for (int size : new int[] {0, 1, 1560, 1579, 1580, 1581, 1590, 1599, 1600}) {
            NinetyPlayers x = new NinetyPlayers();
            Tally.put(x, "span 7;" + " ".repeat(Math.max(0, size - 7)));
            x.end(size);
            int due = size <= 1580 ? size + 20 : NONE;
            TALLY.due(s, "feed to " + size, x.feed(0x20202020, 0x20202020, 0x20202020, 0x20202020, 0x20202024), due);
            TALLY.due(s, "about(12) behind " + size, x.about(12), due == NONE ? size : due);
            x.score();
            boolean whole = due == NONE && size >= 7 || size == 0;
            if (size >= 7) {
                TALLY.due(s, "fault(0) of " + size, x.fault(0), whole ? 0 : 1);
                TALLY.due(s, "fault(1) of " + size, x.fault(1), whole ? NONE : size + 19);
                TALLY.due(s, "about(3) of " + size, x.about(3), whole ? 7 : 12);
            }
        }
        NinetyPlayers full = new NinetyPlayers();
        for (int i = 1; i <= 80; i++) {
            TALLY.due("how many there are", "feed", full.feed(0x20202020, 0x20202020, 0x20202020, 0x20202020, 0x20202020), 20 * i);
        }
        TALLY.due(s, "the 81st", full.feed(0, 0, 0, 0, 0), NONE);
        TALLY.due(s, "the 82nd", full.feed(0, 0, 0, 0, 0), NONE);
        TALLY.due(s, "about(12)", full.about(12), 1600);
        TALLY.due(s, "score()", full.score(), 0);
        // of each number the highest first: the place tells which byte came where
        for (int at = 0; at < 20; at++) {
            int[] n = {0x20202020, 0x20202020, 0x20202020, 0x20202020, 0x20202020};
            n[at / 4] ^= 0xa0 << 24 - at % 4 * 8;
            NinetyPlayers x = new NinetyPlayers();
            x.feed(n[0], n[1], n[2], n[3], n[4]);
            x.score();
            TALLY.due("of each number the highest first", "a byte of 128 at " + at, x.fault(1), at);
            TALLY.due("of each number the highest first", "a byte of 128 at " + at, x.fault(0), 1);
        }
    }

    private static void endBounds() {
        String s = "end: The TAPE has its first n bytes";
        for (int n : new int[] {0, 6, 7, 8, 19, 20}) {
            NinetyPlayers x = new NinetyPlayers();
            Tally.put(x, "part p;part q;part r");
            TALLY.due(s, "end(" + n + ")", x.end(n), n);
            TALLY.due(s, "about(12)", x.about(12), n);
            TALLY.due(s, "end(" + (n + 1) + ")", x.end(n + 1), NONE);
            TALLY.due(s, "end(" + n + ") again", x.end(n), n);
            x.score();
            int[] parts = {0, 0, 1, 0, 0, 0};
            TALLY.due(s, "about(1)", x.about(1), n == 7 ? parts[2] : 0);
        }
        NinetyPlayers x = new NinetyPlayers();
        TALLY.due(s, "end(0) of an empty one", x.end(0), 0);
        TALLY.due(s, "end(1) of an empty one", x.end(1), NONE);
        // what comes next comes behind the first n bytes
        Tally.put(x, "span 1$$$$$$$$$$$$$$");
        x.end(6);
        x.feed(0x313b2020, 0x20202020, 0x20202020, 0x20202020, 0x20202020);
        TALLY.due(s, "score()", x.score(), 0);
        TALLY.due(s, "about(3)", x.about(3), 11);
    }

    private static void scoreWithAFault() {
        String s = "score: NONE: a FAULT (all stays)";
        for (String text : new String[] {"$", "part", "part p;part p;", "span 88;", "note a of p", "beats 2;part x;span 3;missed 7;;"}) {
            NinetyPlayers x = stage();
            NinetyPlayers twin = stage();
            TALLY.due(s, "score() of " + text, Tally.tell(x, text), NONE);
            TALLY.due("The TAPE (empty then)", "about(12)", x.about(12), 0);
            Tally.tell(x, "span 88;");
            Tally.put(x, "part z;part y;");
            TALLY.same(s, "score() of " + text, View.of(x, true), View.of(twin, true));
            TALLY.same(s, "score() of " + text, View.bringOut(x), View.bringOut(twin));
        }
        NinetyPlayers x = stage();
        Tally.tell(x, "part p;note a of p at 0 key 40 long 1;missed 88;span");
        TALLY.due(s, "MISSED stays", x.note(1, 6), 5 + 44);
    }

    private static void scoreAnew() {
        NinetyPlayers x = stage();
        TALLY.due("score: how many NOTES", "score()", Tally.tell(x, TEXT), 4);
        NinetyPlayers fresh = Tally.of(TEXT);
        fresh.later(4);
        TALLY.same("all as told, all left out, no PEDAL, no ACTS are kept, nothing is HEARD, nothing lies there, BOXES are empty then; "
                + "the TIME stays", "score()", View.of(x, true), View.of(fresh, true));
        for (int box = 0; box < 3; box++) {
            TALLY.due("BOXES are empty then", "back(" + box + ")", x.back(box), NONE);
            TALLY.due("BOXES are empty then", "differ(" + box + ")", x.differ(box), NONE);
        }
        TALLY.due("nothing lies there", "lies(0)", x.lies(0), NONE);
        TALLY.due("nothing is HEARD", "untell(1)", x.untell(1), false);
        TALLY.same("score: all is new", "score()", View.bringOut(x), View.bringOut(fresh));
        NinetyPlayers empty = stage();
        TALLY.due("score: how many NOTES", "score() of an empty TAPE", Tally.tell(empty, ""), 0);
        int[] due = {0, 0, 12, 12, 5, 20, 2, 0, 0, 0, 0, 4, 0, 0, 0, 0};
        for (int what = 0; what < due.length; what++) {
            TALLY.due("The TAPE is the SCORE", "about(" + what + ")", empty.about(what), due[what]);
        }
        TALLY.due("The TAPE (empty then)", "score() again", empty.score(), 0);
    }

    private static void faultOfTheLatest() {
        String s = "Of the latest score() what 0: its FAULT (0), 1: its place (NONE)";
        NinetyPlayers x = new NinetyPlayers();
        TALLY.due(s, "fault(0), none yet", x.fault(0), 0);
        TALLY.due(s, "fault(1), none yet", x.fault(1), NONE);
        Tally.tell(x, "span 88;");
        TALLY.due(s, "fault(0)", x.fault(0), 4);
        TALLY.due(s, "fault(1)", x.fault(1), 5);
        Tally.put(x, "$");
        TALLY.due(s, "fault(0), not ended yet", x.fault(0), 4);
        x.score();
        TALLY.due(s, "fault(0)", x.fault(0), 1);
        TALLY.due(s, "fault(1)", x.fault(1), 0);
        Tally.tell(x, "span 87;");
        TALLY.due(s, "fault(0)", x.fault(0), 0);
        TALLY.due(s, "fault(1)", x.fault(1), NONE);
    }

    private static void noneToUndoOrRedo() {
        NinetyPlayers x = Tally.of(TEXT);
        TALLY.due("undo: false if there is none", "undo()", x.undo(), false);
        TALLY.due("redo: false if there is none", "redo()", x.redo(), false);
        TALLY.same("nothing is done", "undo(), redo()", View.of(x, true), View.of(Tally.of(TEXT), true));
        x.give(0, 1);
        TALLY.due("redo: false if there is none", "redo() behind an ACT", x.redo(), false);
        TALLY.due("redo: false if there is none", "note(0, 5)", x.note(0, 5), 1);
        TALLY.due("UNDO: true", "undo()", x.undo(), true);
        TALLY.due("undo: false if there is none", "undo() once more", x.undo(), false);
        TALLY.due("undo: false if there is none", "note(0, 5)", x.note(0, 5), 0);
        TALLY.due("undo: false if there is none", "about(9)", x.about(9), 1);
        TALLY.due("REDO: true", "redo()", x.redo(), true);
        TALLY.due("redo: false if there is none", "redo() once more", x.redo(), false);
        TALLY.due("redo: false if there is none", "about(8)", x.about(8), 1);
        x.undo();
        x.image(0);
        x.back(0);
        TALLY.due("no ACTS are kept then", "undo()", x.undo(), false);
        TALLY.due("no ACTS are kept then", "redo()", x.redo(), false);
        x.give(0, 1);
        x.back(0);
        TALLY.due("no ACTS are kept then", "undo()", x.undo(), false);
    }

    private static void giveAsItIs() {
        NinetyPlayers x = Tally.of(TEXT);
        for (int from = 0; from < 3; from++) {
            for (int to = 0; to < 3; to++) {
                x.give(1, from);
                int acts = x.about(8);
                TALLY.due("give: NONE, doing nothing, if it is so", "from " + from + " to " + to, x.give(1, to) == NONE, from == to);
                TALLY.due("(An ACT.)", "about(8)", x.about(8), acts + (from == to ? 0 : 1));
                TALLY.due("is given to a HAND, or left out (0)", "note(1, 5)", x.note(1, 5), to);
            }
        }
        NinetyPlayers y = Tally.notes("beats 12;part p;fingers 1;", "0 40 12", "11 41 1", "5 42 1");
        TALLY.due("CLASHES of all BEATS, as bits, then", "give(0, 1)", y.give(0, 1), 0);
        TALLY.due("CLASHES of all BEATS, as bits, then", "give(1, 1)", y.give(1, 1), 2048);
        TALLY.due("CLASHES of all BEATS, as bits, then", "give(2, 1)", y.give(2, 1), 2048 | 32);
        TALLY.due("CLASHES of all BEATS, as bits, then", "give(0, 0)", y.give(0, 0), 0);
    }

    private static void shiftToTheEnds() {
        String s = "shift: by octaves (-7 .. 7, not 0): its KEY then";
        for (int key : new int[] {0, 1, 2, 3, 4, 11, 12, 13, 43, 44, 74, 75, 76, 83, 84, 86, 87}) {
            for (int octaves = -9; octaves <= 9; octaves++) {
                NinetyPlayers x = Tally.notes("part p;", "0 " + key + " 1");
                int to = key + 12 * octaves;
                boolean can = octaves != 0 && octaves >= -7 && octaves <= 7 && to >= 0 && to <= 87;
                TALLY.due(s, "from " + key + " by " + octaves, x.shift(0, octaves), can ? to : NONE);
                TALLY.due(s, "from " + key + " by " + octaves + ", note(0, 2)", x.note(0, 2), can ? to : key);
                TALLY.due("(An ACT.)", "about(8)", x.about(8), can ? 1 : 0);
            }
        }
    }

    private static void louderAndLastBounds() {
        NinetyPlayers x = Tally.notes("part p;", "0 40 5 5");
        for (int value : new int[] {1, 9, 2, 8, 5}) {
            int was = x.note(0, 4);
            TALLY.due("louder: is made so LOUD (1 .. 9): how it was", "louder(0, " + value + ")", x.louder(0, value), was);
            TALLY.due("louder: is made so LOUD", "note(0, 4)", x.note(0, 4), value);
            TALLY.due("louder: NONE, doing nothing, if it is so", "louder(0, " + value + ")", x.louder(0, value), NONE);
            TALLY.due("louder: 0", "louder(0, 0)", x.louder(0, 0), NONE);
            TALLY.due("louder: 10", "louder(0, 10)", x.louder(0, 10), NONE);
        }
        TALLY.due("(An ACT.)", "about(8)", x.about(8), 5);
        for (int value : new int[] {1, 12, 2, 11, 5}) {
            int was = x.note(0, 3);
            TALLY.due("last: is made so LONG (1 .. 12): how it was", "last(0, " + value + ")", x.last(0, value), was);
            TALLY.due("last: is made so LONG", "note(0, 3)", x.note(0, 3), value);
            TALLY.due("last: NONE, doing nothing, if it is so", "last(0, " + value + ")", x.last(0, value), NONE);
            TALLY.due("last: 0", "last(0, 0)", x.last(0, 0), NONE);
            TALLY.due("last: 13", "last(0, 13)", x.last(0, 13), NONE);
        }
        TALLY.due("(An ACT.)", "about(8)", x.about(8), 10);
        TALLY.due("as told, at first", "loud", x.note(0, 4), 5);
        // as long as can be, whatever the beats are
        NinetyPlayers one = Tally.notes("beats 1;part p;", "0 40 1");
        TALLY.due("last: is made so LONG (1 .. 12)", "last(0, 12) of one BEAT", one.last(0, 12), 1);
        TALLY.due("last: is made so LONG (1 .. 12)", "note(0, 3)", one.note(0, 3), 12);
    }

    private static void pedalComesAndGoes() {
        String s = "pedal: PEDAL at a BEAT comes, or goes: all BEATS with PEDAL, as bits, then";
        for (int beats = 1; beats <= 12; beats++) {
            NinetyPlayers x = Tally.of("beats " + beats + ";");
            int set = 0;
            for (int beat = 0; beat < beats; beat++) {
                set |= 1 << beat;
                TALLY.due(s, "pedal(" + beat + ")", x.pedal(beat), set);
            }
            TALLY.due(s, "pedal(" + beats + ")", x.pedal(beats), NONE);
            TALLY.due(s, "pedal(-1)", x.pedal(-1), NONE);
            TALLY.due(s, "about(7)", x.about(7), set);
            TALLY.due("(An ACT.)", "about(8)", x.about(8), beats);
            for (int beat = 0; beat < beats; beat++) {
                set ^= 1 << beat;
                TALLY.due(s, "pedal(" + beat + ") goes", x.pedal(beat), set);
            }
            TALLY.due("(An ACT.)", "about(8)", x.about(8), 2 * beats);
        }
    }

    private static void lyingIs(String sentence, String call, NinetyPlayers x, int... hands) {
        TALLY.due(sentence, call + ", about(14)", x.about(14), hands.length);
        for (int i = 0; i < hands.length; i++) {
            TALLY.due(sentence, call + ", lies(" + i + ")", x.lies(i), hands[i]);
        }
        TALLY.due(sentence, call + ", lies(" + hands.length + ")", x.lies(hands.length), NONE);
        TALLY.due(sentence, call + ", lies(-1)", x.lies(-1), NONE);
    }

    private static void versionLiesThere() {
        String s = "version: The HAND of each NOTE lies there then";
        String[] notes = {"0 40 1", "0 50 1", "0 60 1"};
        for (int what = -1; what <= 2; what++) {
            NinetyPlayers x = Tally.notes("beats 1;part p;fingers 1;", notes);
            lyingIs("nothing lies there", "new", x);
            int[] due = {NONE, 5, 2, NONE};
            TALLY.due("VERSION what 0: LOSS, 1: how many are played; NONE for another what", "version(" + what + ")", x.version(what), due[what + 1]);
            lyingIs(s, "version(" + what + ")", x, 1, 2, 0);
            x.child(5, 87);
            lyingIs(s, "child(5, 87)", x, 1, 1, 1);
            x.version(what);
            lyingIs(s, "version(" + what + ") anew", x, 1, 2, 0);
        }
        for (int what : new int[] {LEAST, MOST}) {
            TALLY.due("version: NONE for another what", "version(" + what + ")", Tally.of(TEXT).version(what), NONE);
        }
        NinetyPlayers empty = new NinetyPlayers();
        empty.version(0);
        lyingIs(s, "version(0) of no NOTES", empty);
    }

    private static void childLiesThere() {
        String s = "child: NONE if one can't be. The HAND of each NOTE lies there then (behind NONE: nothing)";
        int[][] bad = {{0, 12}, {-1, 12}, {6, 12}, {LEAST, 12}, {MOST, 12}, {1, -1}, {1, 88}, {5, -1}, {5, 88}, {1, LEAST}, {1, MOST}, {0, 88}};
        for (int[] call : bad) {
            NinetyPlayers x = Tally.notes("beats 1;part p;fingers 1;", "0 40 1", "0 50 1", "0 60 1");
            String name = "child(" + call[0] + ", " + call[1] + ")";
            TALLY.due(s, name, x.child(call[0], call[1]), NONE);
            lyingIs(s, name, x);
            x.version(0);
            TALLY.due(s, name, x.child(call[0], call[1]), NONE);
            lyingIs(s, name + " behind version(0)", x);
            NinetyPlayers y = stage();
            y.child(call[0], call[1]);
            TALLY.same("nothing else is done", name, View.of(y, false), View.of(stage(), false));
            TALLY.same("nothing else is done", name, View.bringOut(y), View.bringOut(stage()));
        }
        int[][] good = {{1, 0}, {1, 87}, {5, 0}, {5, 87}, {2, 1}, {4, 86}};
        for (int[] call : good) {
            NinetyPlayers x = Tally.notes("beats 1;part p;fingers 1;", "0 40 1");
            TALLY.due("child: fingers 1 .. 5, span 0 .. 87", "child(" + call[0] + ", " + call[1] + ")", x.child(call[0], call[1]), 0);
            lyingIs(s, "child(" + call[0] + ", " + call[1] + ")", x, 1);
        }
    }

    private static void liesBounds() {
        String s = "what lies there stays till other numbers do, or a SCORE comes";
        NinetyPlayers x = stage();
        int first = x.lies(0);
        int last = x.lies(3);
        TALLY.due("lies: The i-th number", "about(14)", x.about(14), 4);
        x.give(0, 0);
        x.shift(0, 1);
        x.louder(0, 1);
        x.last(0, 1);
        x.pedal(0);
        x.undo();
        x.redo();
        x.image(1);
        x.back(2);
        x.heard(0, 0, true);
        x.untell(2);
        x.later(1);
        x.giveway(1, 1, 1);
        x.pedals(1);
        x.letin(1, 0);
        Tally.tell(x, "$");
        TALLY.due(s, "lies(0)", x.lies(0), first);
        TALLY.due(s, "lies(3)", x.lies(3), last);
        TALLY.due(s, "about(14)", x.about(14), 4);
        Tally.tell(x, TEXT);
        TALLY.due("score: nothing lies there", "about(14)", x.about(14), 0);
        TALLY.due("score: nothing lies there", "lies(0)", x.lies(0), NONE);
        String[] ten = new String[10];
        for (int i = 0; i < 10; i++) {
            ten[i] = i + " 40 1";
        }
        NinetyPlayers all = Tally.notes("part p;", ten);
        all.version(0);
        lyingIs("lies: The i-th number", "version(0) of ten", all, 1, 1, 1, 1, 1, 1, 1, 1, 1, 1);
    }

    private static void heardBounds() {
        String s = "heard: its number";
        NinetyPlayers x = Tally.notes("beats 4;part p;", "0 40 1");
        TALLY.due(s, "heard(0, 0, true)", x.heard(0, 0, true), 0);
        TALLY.due(s, "heard(3, 87, false)", x.heard(3, 87, false), 1);
        TALLY.due(s, "heard(4, 0, true)", x.heard(4, 0, true), NONE);
        TALLY.due(s, "heard(0, 88, true)", x.heard(0, 88, true), NONE);
        TALLY.due("about: what is HEARD", "about(10)", x.about(10), 2);
        NinetyPlayers full = stage();
        NinetyPlayers twin = stage();
        for (int i = 2; i < 30; i++) {
            TALLY.due(s, "heard", full.heard(3, 5, false), i);
            twin.heard(3, 5, false);
        }
        TALLY.due("heard: NONE, doing nothing, if there are 30", "heard(0, 40, false)", full.heard(0, 40, false), NONE);
        TALLY.due("heard: NONE, doing nothing, if there are 30", "about(10)", full.about(10), 30);
        TALLY.same("heard: NONE, doing nothing, if there are 30", "heard", View.of(full, true), View.of(twin, true));
        TALLY.same("heard: NONE, doing nothing, if there are 30", "heard", View.bringOut(full), View.bringOut(twin));
    }

    private static void untellBounds() {
        NinetyPlayers x = Tally.notes("part p;", "0 40 1");
        TALLY.due("untell: false if there is none such", "untell(0)", x.untell(0), false);
        x.heard(0, 40, true);
        x.heard(0, 41, true);
        TALLY.due("SETS", "no SETS", x.sets(0), 0);
        TALLY.due("untell: false if there is none such", "untell(2)", x.untell(2), false);
        TALLY.due("untell: false if there is none such", "untell(-1)", x.untell(-1), false);
        x.later(1);
        TALLY.due("untell: It is UNTOLD: true", "untell(1)", x.untell(1), true);
        TALLY.due("untell: It is UNTOLD", "sets(0)", x.sets(0), 0);
        TALLY.due("untell: It is UNTOLD", "sets(1)", x.sets(1), 1);
        x.later(1);
        TALLY.due("untell: false if it is so already", "untell(1)", x.untell(1), false);
        TALLY.due("untell: false if it is so already", "sets(1)", x.sets(1), 1);
        TALLY.due("untell: It is UNTOLD: true", "untell(0)", x.untell(0), true);
        TALLY.due("untell: It is UNTOLD", "sets(2)", x.sets(2), 2);
        TALLY.due("heard: its number", "the next", x.heard(0, 40, false), 2);
    }

    private static void imagesBounds() {
        String s = "image: are kept in a BOX 0 .. 2: how many are given to a HAND";
        NinetyPlayers x = Tally.of(TEXT);
        TALLY.due(s, "image(0)", x.image(0), 0);
        x.give(0, 1);
        TALLY.due(s, "image(1)", x.image(1), 1);
        x.give(3, 2);
        x.pedal(3);
        TALLY.due(s, "image(2)", x.image(2), 2);
        int acts = x.about(8);
        x.image(2);
        TALLY.due("image is no ACT", "about(8)", x.about(8), acts);
        x.undo();
        x.image(2);
        TALLY.due("image leaves what can be redone", "about(9)", x.about(9), 1);
        x.redo();
        TALLY.due("kept without the pedal", "differ(2)", x.differ(2), 0);
        TALLY.due("back: how many are given to a HAND", "back(0)", x.back(0), 0);
        TALLY.due("back: how many are given to a HAND", "back(1)", x.back(1), 1);
        TALLY.due("back: how many are given to a HAND", "back(2)", x.back(2), 2);
        TALLY.due("PEDAL is kept", "about(7)", x.about(7), 0);
        x.pedal(2);
        x.image(1);
        x.pedal(2);
        TALLY.due("a BOX is kept anew", "back(1)", x.back(1), 2);
        TALLY.due("PEDAL is kept", "about(7)", x.about(7), 4);
    }

    private static void differBounds() {
        String s = "differ: NOTES that are otherwise (HAND, KEY, LONG or LOUD) than they were kept, as bits";
        NinetyPlayers x = Tally.of(TEXT);
        x.image(1);
        TALLY.due(s, "as they were", x.differ(1), 0);
        x.pedal(0);
        TALLY.due(s, "PEDAL is not of a NOTE", x.differ(1), 0);
        x.give(3, 1);
        TALLY.due(s, "HAND", x.differ(1), 8);
        x.shift(2, 1);
        TALLY.due(s, "KEY", x.differ(1), 12);
        x.last(1, 1);
        TALLY.due(s, "LONG", x.differ(1), 14);
        x.louder(0, 1);
        TALLY.due(s, "LOUD", x.differ(1), 15);
        x.give(3, 0);
        x.shift(2, -1);
        x.last(1, 2);
        x.louder(0, 6);
        TALLY.due(s, "as they were again", x.differ(1), 0);
        TALLY.due("NONE if nothing was", "differ(0)", x.differ(0), NONE);
        TALLY.due("NONE if nothing was", "differ(2)", x.differ(2), NONE);
    }

    private static void backBounds() {
        String s = "back: All is as it was kept (no ACTS are kept then)";
        for (int box = 0; box < 3; box++) {
            NinetyPlayers x = Tally.of(TEXT);
            x.give(0, 2);
            x.shift(0, 1);
            x.last(1, 12);
            x.louder(2, 9);
            x.pedal(3);
            x.undo();
            x.pedal(2);
            x.image(box);
            String kept = View.of(x, true).replaceAll("about[89]=\\d+", "");
            x.give(0, 1);
            x.give(1, 1);
            x.shift(0, -1);
            x.last(1, 1);
            x.louder(2, 1);
            x.pedal(0);
            x.pedal(2);
            x.undo();
            TALLY.due(s, "back(" + box + ")", x.back(box), 1);
            TALLY.same(s, "back(" + box + ")", View.of(x, true).replaceAll("about[89]=\\d+", ""), kept);
            TALLY.due(s, "about(8)", x.about(8), 0);
            TALLY.due(s, "about(9)", x.about(9), 0);
            TALLY.due(s, "undo()", x.undo(), false);
            TALLY.due(s, "redo()", x.redo(), false);
            x.give(3, 1);
            TALLY.due("it stays kept", "differ(" + box + ")", x.differ(box), 8);
            TALLY.due("it stays kept", "back(" + box + ")", x.back(box), 1);
            TALLY.due("it stays kept", "differ(" + box + ")", x.differ(box), 0);
        }
        NinetyPlayers heard = stage();
        heard.back(0);
        TALLY.due("HEARD, TIME, and what lies there stay", "back(0)", heard.about(10) * 10000 + heard.about(11) * 100 + heard.about(14), 20404);
        TALLY.due("what is on the TAPE stays", "back(0)", heard.about(12), 14);
    }

    private static void aboutAll() {
        NinetyPlayers x = stage();
        int[] due = {4, 2, 4, 12, 2, 15, 2, 2, 3, 1, 2, 4, 14, 2, 4, 2};
        for (int what = 0; what < due.length; what++) {
            TALLY.due("about: what " + what, "about(" + what + ")", x.about(what), due[what]);
        }
    }
}
