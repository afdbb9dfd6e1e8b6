import java.util.Arrays;

/** What is MISSED, HELD, SOUNDS, CLASHES, is kept and HEARD: each rule at its bound, just within it and just beyond it. */
public final class RulesBoundsTest {
    private static final Tally TALLY = new Tally("RulesBoundsTest");
    private static final int LEFT = 1;
    private static final int RIGHT = 2;

    public static void main(String[] args) {
        missedBounds();
        missedWraps();
        missedDividesBy0();
        missedOfWhatIsNot0();
        missedIfNotTold();
        missedToldAnew();
        doubled();
        heldSoLong();
        heldToTheNextPedal();
        soundsByPedal();
        clashOfFingers();
        clashOfSpan();
        clashOfLeap();
        clashOfCrossedHands();
        clashOfOneKey();
        clashesTogether();
        fortyActs();
        redoTillAnotherAct();
        versionOfLikeOnes();
        childBounds();
        forbidsWhatIsNew();
        giveWayOfLikeOnes();
        shiftOfLikeOnes();
        shiftWithinTheKeys();
        shiftThatCantBe();
        pedalsOfLikeOnes();
        pedalsThatCantBe();
        spreadAndLeaps();
        blurBounds();
        openBounds();
        lostBounds();
        gapsBounds();
        easierBounds();
        thickestAndBusiestOfLikeOnes();
        lawBounds();
        dearestOfLikeOnes();
        couldEachByItself();
        thirtyHeard();
        countsAtK();
        heardOfTheScoreAsTold();
        setsSureAsk();
        timeBounds();
        TALLY.end();
    }

    private static void giveAll(NinetyPlayers x, int hand) {
        for (int note = 0; note < x.about(0); note++) {
            x.give(note, hand);
        }
    }

    // ---- MISSED

    /** Role 2, key 40, long 3, loud 7, doubled 1, beat 2. */
    private static int missed(String formula) {
        return Tally.of("part p tune;note a of p at 2 key 40 long 3 loud 7;note b of p at 2 key 52 long 1;missed " + formula + ";")
                .note(0, 6);
    }

    private static void missedIs(String sentence, String formula, int due) {
        TALLY.due(sentence, "missed " + formula, missed(formula), due);
    }

    private static void missedBounds() {
        String s = "0 at least, 999 at most";
        missedIs(s, "0", 0);
        missedIs(s, "1", 1);
        missedIs(s, "998", 998);
        missedIs(s, "999", 999);
        missedIs(s, "1000", 999);
        missedIs(s, "9999", 999);
        missedIs(s, "5-4", 1);
        missedIs(s, "5-5", 0);
        missedIs(s, "5-6", 0);
        missedIs(s, "0-9999", 0);
        // only what comes of all is kept within: not what comes on the way
        missedIs(s, "(0-5)+7", 2);
        missedIs(s, "2000-1999", 1);
        NinetyPlayers x = Tally.of("part p;note a of p at 0 key 0 long 1;note b of p at 0 key 1 long 1;missed 9999;");
        TALLY.due("LOSS: .. together", "loss()", x.loss(), 1998);
        TALLY.due("LOSS: .. together", "loss() of ten", Tally.of(Tally.lines("part p;missed 1000;", "0 0 1", "0 1 1", "0 2 1", "0 3 1",
                "0 4 1", "0 5 1", "0 6 1", "0 7 1", "0 8 1", "0 9 1")).loss(), 9990);
    }

    private static void missedWraps() {
        String s = "ints, wrapping";
        String two31 = "4096*4096*128";
        missedIs(s, two31, 0);
        missedIs(s, two31 + "-1", 999);
        missedIs(s, "(" + two31 + "<0)*7", 7);
        missedIs(s, "(" + two31 + "-1>0)*7", 7);
        missedIs(s, two31 + "*2", 0);
        missedIs(s, two31 + "*2+5", 5);
        missedIs(s, "(0-" + two31 + "=" + two31 + ")*3", 3);
        missedIs(s, "(" + two31 + "/(0-1)=" + two31 + ")*3", 3);
        missedIs(s, "(" + two31 + "%(0-1)=0)*3", 3);
        missedIs(s, "9999*9999*43/5000", 834);
    }

    private static void missedDividesBy0() {
        String cut = "/ cut, % its rest";
        missedIs(cut, "7/2", 3);
        missedIs(cut, "8/2", 4);
        missedIs(cut, "9/2", 4);
        missedIs(cut, "0-(0-7)/2", 3);
        missedIs(cut, "0-7/(0-2)+0", 3);
        missedIs(cut, "(0-7)/(0-2)", 3);
        missedIs(cut, "7%4", 3);
        missedIs(cut, "8%4", 0);
        missedIs(cut, "0-(0-7)%4", 3);
        missedIs(cut, "7%(0-4)", 3);
        missedIs(cut, "10+(0-7)%(0-4)", 7);
        String s = "both by 0: 0";
        missedIs(s, "7/0", 0);
        missedIs(s, "7%0", 0);
        missedIs(s, "0/0", 0);
        missedIs(s, "0%0", 0);
        missedIs(s, "5+7/0", 5);
        missedIs(s, "5+7%0", 5);
        missedIs(s, "5+7/(key-40)*3", 5);
        missedIs(s, "5+(0-7)%(key-40)", 5);
        missedIs(s, "6/(key-39)", 6);
    }

    private static void missedOfWhatIsNot0() {
        String s = "relations, and, or, not are 1 or 0, of what is not 0";
        String[] some = {"1", "2", "9999", "(0-1)", "4096*4096*128"};
        for (String not0 : some) {
            missedIs(s, "not " + not0, 0);
            missedIs(s, "not not " + not0, 1);
            missedIs(s, not0 + " and " + not0, 1);
            missedIs(s, not0 + " and 0", 0);
            missedIs(s, "0 and " + not0, 0);
            missedIs(s, not0 + " or 0", 1);
            missedIs(s, "0 or " + not0, 1);
            missedIs(s, not0 + " or " + not0, 1);
        }
        missedIs(s, "not 0", 1);
        missedIs(s, "0 and 0", 0);
        missedIs(s, "0 or 0", 0);
        missedIs(s, "2 and 4", 1);
        int[][] relations = {{4, 4, 0, 0, 1}, {4, 5, 1, 0, 0}, {5, 4, 0, 1, 0}};
        for (int[] r : relations) {
            missedIs(s, r[0] + "<" + r[1], r[2]);
            missedIs(s, r[0] + ">" + r[1], r[3]);
            missedIs(s, r[0] + "=" + r[1], r[4]);
        }
        for (String no : new String[] {"4<4", "5<4", "4>4", "4>5", "4=5", "5=4", "1 and 0", "0 and 1", "0 or 0", "not 1"}) {
            missedIs("are 1 or 0", "5+(" + no + ")", 5);
            missedIs("are 1 or 0", "5+(not (" + no + "))", 6);
            missedIs("are 1 or 0", "5-3*(" + no + ")", 5);
        }
        missedIs(s, "0-1<0", 1);
        missedIs(s, "0-2>0-1", 0);
        int[] facts = {2, 40, 3, 7, 1, 2};
        String[] names = {"role", "key", "long", "loud", "doubled", "beat"};
        for (int i = 0; i < facts.length; i++) {
            missedIs("by role, key, long, loud, doubled, beat", names[i], facts[i]);
        }
    }

    /** Nothing of a longer formula, of a SCORE told before or of a text with a FAULT, is left behind a shorter one. */
    private static void missedToldAnew() {
        String sentence = "The TAPE is the SCORE (all as told)";
        String note = "part p;note a of p at 0 key 40 long 1;missed ";
        String[] longer = {"not 1", "5+1", "5-1", "5*0", "5/9", "5%2", "5<1", "5=4", "0 or 0", "5 and 0", "not not 0", "1+2+3+4+5"};
        for (String first : longer) {
            NinetyPlayers x = new NinetyPlayers();
            for (int told = 0; told < 3; told++) {
                Tally.tell(x, note + first + ";");
            }
            for (int told = 0; told < 3; told++) {
                Tally.tell(x, note + "7;");
                TALLY.due(sentence, "missed " + first + ", then missed 7", x.note(0, 6), 7);
                Tally.tell(x, note + first + ";$");
                TALLY.due(sentence, "missed 7, then missed " + first + " with a FAULT", x.note(0, 6), 7);
            }
            Tally.tell(x, note.replace("missed ", ""));
            TALLY.due(sentence, "missed " + first + ", then none", x.note(0, 6), 5);
            TALLY.due(sentence, "missed " + first + ", then none, about(13)", x.about(13), 0);
        }
    }

    private static void missedIfNotTold() {
        String s = "loud + role * 5 - doubled, if it is not told";
        NinetyPlayers x = Tally.of("part f;part b bass;part t tune;note a of f at 0 key 0 long 9 loud 1;"
                + "note b of b at 1 key 0 long 9 loud 1;note c of t at 2 key 0 long 9 loud 1;note d of t at 3 key 0 long 9 loud 9;"
                + "note e of t at 3 key 12 long 1 loud 2;");
        int[] due = {1, 6, 11, 18, 11};
        for (int note = 0; note < due.length; note++) {
            TALLY.due(s, "note(" + note + ", 6)", x.note(note, 6), due[note]);
        }
        String[] ten = new String[10];
        for (int i = 0; i < 10; i++) {
            ten[i] = "0 " + i % 3 * 12 + " 1 " + Math.min(9, i + 1);
        }
        NinetyPlayers y = Tally.notes("part p;", ten);
        TALLY.due(s + ", 0 at least", "loud 1, doubled 9", y.note(0, 6), 0);
        TALLY.due(s + ", 0 at least", "loud 8, doubled 9", y.note(7, 6), 0);
        TALLY.due(s + ", 0 at least", "loud 9, doubled 9", y.note(8, 6), 0);
        TALLY.due(s, "the formula is gone with its text", Tally.tell(y, "part p;note a of p at 0 key 0 long 1;missed 77;"), 1);
        TALLY.due(s, "told", y.note(0, 6), 77);
        for (int i = 0; i < 3; i++) {
            Tally.tell(y, "part p;note a of p at 0 key 0 long 1;");
            TALLY.due(s, "not told any more", y.note(0, 6), 5);
        }
        Tally.tell(y, "missed 88;$");
        TALLY.due(s, "not told but in a text with a FAULT", y.note(0, 6), 5);
        Tally.tell(y, "part p;note a of p at 0 key 0 long 1;");
        TALLY.due(s, "not told but in a text with a FAULT", y.note(0, 6), 5);
        Tally.tell(y, "part p;note a of p at 0 key 0 long 1;missed 3;");
        TALLY.due(s, "told anew", y.note(0, 6), 3);
        Tally.tell(y, "part p;note a of p at 0 key 0 long 1;missed 4;");
        TALLY.due(s, "told anew", y.note(0, 6), 4);
        Tally.tell(y, "part p;note a of p at 0 key 0 long 1;missed 5-3;");
        TALLY.due(s, "told anew", y.note(0, 6), 2);
    }

    private static void doubled() {
        String s = "begin at the same BEAT and have a KEY that differs by whole twelves, 0 too";
        int[] keys = {40, 41, 51, 52, 53, 63, 64, 28, 29, 27, 4, 76, 87, 0, 39};
        for (int key : keys) {
            int due = (key - 40) % 12 == 0 ? 1 : 0;
            NinetyPlayers x = Tally.notes("part p;missed doubled;", "1 40 1", "1 " + key + " 1", "0 " + key + " 2", "2 " + key + " 1");
            TALLY.due(s, "key " + key, x.note(0, 7), due * 2);
            TALLY.due(s, "key " + key, x.note(0, 6), due);
            TALLY.due(s, "key " + key + ", the other", x.note(1, 7), due);
            TALLY.due(s, "key " + key + ", at another BEAT", x.note(2, 7), 0);
        }
        NinetyPlayers far = Tally.notes("part p;missed doubled;", "0 0 1", "0 84 1", "0 87 1", "0 3 1");
        int[] dues = {2, 1, 8, 4};
        for (int note = 0; note < 4; note++) {
            TALLY.due(s, "seven octaves", far.note(note, 7), dues[note]);
        }
        NinetyPlayers x = Tally.notes("part p;missed doubled;", "0 40 1", "0 52 1", "0 40 1");
        for (int hand = 0; hand < 3; hand++) {
            x.give(1, hand);
            TALLY.due("other NOTES, given to a HAND or not", "hand " + hand, x.note(0, 7), 6);
            TALLY.due("other NOTES, given to a HAND or not", "hand " + hand, x.note(1, 6), 2);
        }
        TALLY.due("other NOTES", "not itself", Tally.notes("part p;", "0 40 1").note(0, 7), 0);
    }

    // ---- HELD, SOUNDS

    private static int bits(int from, int to) {
        int set = 0;
        for (int beat = from; beat <= to; beat++) {
            set |= 1 << beat;
        }
        return set;
    }

    private static int heldBeats(NinetyPlayers x, int note, int hand) {
        int set = 0;
        for (int beat = 0; beat < x.about(2); beat++) {
            set |= (x.held(beat, hand) >> note & 1) << beat;
        }
        return set;
    }

    private static int soundingBeats(NinetyPlayers x, int note) {
        int set = 0;
        for (int beat = 0; beat < x.about(2); beat++) {
            set |= (x.sounds(beat) >> note & 1) << beat;
        }
        return set;
    }

    private static void heldSoLong() {
        String s = "HELD at each BEAT from that at which it begins, so LONG (to the last BEAT at most)";
        for (int beats : new int[] {1, 2, 5, 12}) {
            for (int begin = 0; begin < beats; begin++) {
                NinetyPlayers x = Tally.notes("beats " + beats + ";part p;", begin + " 40 1");
                TALLY.due("A NOTE given to a HAND is HELD", "left out", heldBeats(x, 0, LEFT) | heldBeats(x, 0, RIGHT), 0);
                x.give(0, RIGHT);
                for (int length = 1; length <= 12; length++) {
                    x.last(0, length);
                    String call = "begin " + begin + " of " + beats + ", long " + length;
                    int due = bits(begin, Math.min(beats, begin + length) - 1);
                    TALLY.due(s, call, heldBeats(x, 0, RIGHT), due);
                    TALLY.due(s, call + ", the other hand", heldBeats(x, 0, LEFT), 0);
                    TALLY.due("It SOUNDS at a BEAT, if it is HELD", call, soundingBeats(x, 0), due);
                }
            }
        }
    }

    private static void heldToTheNextPedal() {
        String s = "no more from the first BEAT with PEDAL behind that at which it begins";
        for (int pedal = 0; pedal < 12; pedal++) {
            NinetyPlayers x = Tally.notes("part p;", "3 40 5");
            x.give(0, LEFT);
            x.pedal(pedal);
            boolean cuts = pedal > 3 && pedal < 8;
            TALLY.due(s, "pedal at " + pedal, heldBeats(x, 0, LEFT), bits(3, cuts ? pedal - 1 : 7));
            x.pedal(11);
            TALLY.due("the first BEAT", "pedals at " + pedal + ", 11", heldBeats(x, 0, LEFT), bits(3, cuts ? pedal - 1 : 7));
            if (pedal != 6) {
                x.pedal(6);
                TALLY.due("the first BEAT", "pedals at " + pedal + ", 6", heldBeats(x, 0, LEFT), bits(3, cuts && pedal < 6 ? pedal - 1 : 5));
            }
        }
        NinetyPlayers x = Tally.notes("beats 3;part p;", "0 40 3", "2 41 3");
        giveAll(x, RIGHT);
        x.pedal(0);
        TALLY.due(s, "at the first BEAT of all", heldBeats(x, 0, RIGHT), 7);
        x.pedal(2);
        TALLY.due(s, "at the last BEAT of all", heldBeats(x, 0, RIGHT), 3);
        TALLY.due(s, "at the BEAT at which it begins", heldBeats(x, 1, RIGHT), 4);
        x.pedal(2);
        TALLY.due("PEDAL goes", "pedal(2) again", heldBeats(x, 0, RIGHT), 7);
    }

    private static void soundsByPedal() {
        String s = "it SOUNDED at the BEAT ahead and this one has PEDAL";
        for (int pedal = 0; pedal < 12; pedal++) {
            NinetyPlayers x = Tally.notes("part p;", "3 40 5");
            x.pedal(pedal);
            TALLY.due(s, "left out, pedal at " + pedal, soundingBeats(x, 0), 0);
            x.give(0, LEFT);
            TALLY.due(s, "pedal at " + pedal, soundingBeats(x, 0), bits(3, pedal > 3 && pedal <= 8 ? pedal : 7));
        }
        for (int from = 4; from <= 9; from++) {
            for (int to = from; to < 12; to++) {
                NinetyPlayers x = Tally.notes("part p;", "3 40 5");
                x.give(0, RIGHT);
                for (int pedal = from; pedal <= to; pedal++) {
                    x.pedal(pedal);
                }
                TALLY.due(s, "pedals " + from + " to " + to, soundingBeats(x, 0), bits(3, from <= 8 ? to : 7));
                TALLY.due("as before it is not HELD again", "pedals " + from + " to " + to, heldBeats(x, 0, RIGHT), bits(3, Math.min(8, from) - 1));
            }
        }
        NinetyPlayers x = Tally.notes("beats 4;part p;", "0 40 1", "2 41 1");
        giveAll(x, LEFT);
        x.pedal(0);
        TALLY.due(s, "no BEAT is ahead of the first", x.sounds(0), 1);
        TALLY.due(s, "this one has no PEDAL", x.sounds(1), 0);
        x.pedal(2);
        TALLY.due(s, "did not SOUND at the BEAT ahead", x.sounds(2), 2);
        x.pedal(1);
        TALLY.due(s, "from BEAT to BEAT", x.sounds(2), 3);
        x.pedal(3);
        TALLY.due(s, "to the last BEAT", x.sounds(3), 3);
    }

    // ---- CLASHES

    private static String[] chord(int size, int key, int step) {
        String[] notes = new String[size];
        for (int i = 0; i < size; i++) {
            notes[i] = "1 " + (key + i * step) + " 1";
        }
        return notes;
    }

    private static void clashOfFingers() {
        String s = "1, it HOLDS more NOTES than it has fingers";
        for (int fingers = 1; fingers <= 5; fingers++) {
            for (int hand = LEFT; hand <= RIGHT; hand++) {
                NinetyPlayers x = Tally.notes("part p;span 87;fingers " + fingers + ";", chord(fingers + 2, 40, 1));
                for (int size = 1; size <= fingers + 2; size++) {
                    x.give(size - 1, hand);
                    TALLY.due(s, size + " in hand " + hand + " of " + fingers + " fingers", x.clash(1), size > fingers ? 1 : 0);
                    TALLY.due(s, "at another BEAT", x.clash(0) | x.clash(2), 0);
                }
            }
            NinetyPlayers both = Tally.notes("part p;span 87;fingers " + fingers + ";", chord(fingers * 2, 40, 1));
            for (int i = 0; i < fingers * 2; i++) {
                both.give(i, i < fingers ? LEFT : RIGHT);
            }
            TALLY.due("CLASHES of a HAND", "as many in both hands as they have fingers", both.clashes(), 0);
        }
    }

    private static void clashOfSpan() {
        String s = "2, their lowest and highest KEY differ by more than span tells";
        for (int span : new int[] {0, 1, 11, 12, 13, 85, 86, 87}) {
            for (int apart = Math.max(1, span - 1); apart <= Math.min(87, span + 1); apart++) {
                for (int hand = LEFT; hand <= RIGHT; hand++) {
                    NinetyPlayers x = Tally.notes("beats 2;part p;span " + span + ";", "1 " + apart + " 1", "1 0 1");
                    giveAll(x, hand);
                    TALLY.due(s, apart + " by span " + span, x.clash(1), apart > span ? 2 : 0);
                }
                NinetyPlayers both = Tally.notes("beats 2;part p;span " + span + ";", "1 0 1", "1 " + apart + " 1");
                both.give(0, LEFT);
                both.give(1, RIGHT);
                TALLY.due("CLASHES of a HAND", apart + " from hand to hand by span " + span, both.clash(1), 0);
            }
        }
        NinetyPlayers x = Tally.notes("beats 1;part p;span 12;", "0 45 1", "0 52 1", "0 40 1", "0 53 1");
        giveAll(x, LEFT);
        TALLY.due(s, "lowest and highest of four", x.clash(0), 2);
        x.give(3, 0);
        TALLY.due(s, "lowest and highest of three", x.clash(0), 0);
        TALLY.due("12 if not told", "12", Tally.notes("beats 1;part p;", "0 40 1", "0 52 1").law(12), 0);
        NinetyPlayers y = Tally.notes("beats 1;part p;", "0 40 1", "0 52 1", "0 53 1");
        y.give(0, LEFT);
        TALLY.due("span .. 12", "12 apart", y.give(1, LEFT), 0);
        TALLY.due("span .. 12", "13 apart", y.give(2, LEFT), 1);
    }

    private static void clashOfLeap() {
        String s = "16, .. the lowest KEYS of both differ by more than leap tells";
        for (int leap : new int[] {0, 1, 19, 20, 21, 85, 86, 87}) {
            for (int far = Math.max(0, leap - 1); far <= Math.min(87, leap + 1); far++) {
                for (int hand = LEFT; hand <= RIGHT; hand++) {
                    NinetyPlayers up = Tally.notes("beats 3;part p;leap " + leap + ";", "1 0 1", "2 " + far + " 1");
                    giveAll(up, hand);
                    TALLY.due(s, "up by " + far + ", leap " + leap, up.clash(2), far > leap ? 16 : 0);
                    TALLY.due(s, "at the BEAT ahead", up.clash(1), 0);
                    NinetyPlayers down = Tally.notes("beats 3;part p;leap " + leap + ";", "1 " + far + " 1", "2 0 1");
                    giveAll(down, hand);
                    TALLY.due(s, "down by " + far + ", leap " + leap, down.clash(2), far > leap ? 16 : 0);
                    TALLY.due(s, "as beats", down.clashes(), far > leap ? 4 : 0);
                }
            }
        }
        NinetyPlayers x = Tally.notes("beats 4;part p;leap 5;span 87;", "0 40 1", "1 40 1", "1 60 1", "0 80 1");
        giveAll(x, LEFT);
        TALLY.due(s, "lowest to lowest", x.clashes(), 0);
        x.give(1, 0);
        TALLY.due(s, "the lowest is another one then", x.clash(1), 16);
        x.give(1, RIGHT);
        TALLY.due("it HOLDS some at this BEAT and at the one ahead", "one HAND, then the other", x.clash(1) & 16, 16);
        x.give(2, 0);
        TALLY.due("it HOLDS some at this BEAT and at the one ahead", "one HAND, then the other", x.clash(1), 0);
        NinetyPlayers rest = Tally.notes("beats 4;part p;leap 0;", "0 40 1", "2 80 1", "3 80 1");
        giveAll(rest, LEFT);
        TALLY.due("and at the one ahead", "a rest between", rest.clashes(), 0);
        rest.last(0, 2);
        TALLY.due("and at the one ahead", "no rest between", rest.clashes(), 4);
        rest.pedal(1);
        TALLY.due("HOLDS, not SOUNDS", "a PEDAL sounds it on", rest.clashes(), 0);
        NinetyPlayers first = Tally.notes("beats 2;part p;leap 5;", "1 80 1", "0 10 1");
        giveAll(first, LEFT);
        TALLY.due("and at the one ahead", "none is ahead of the first BEAT", first.clash(0), 0);
        TALLY.due("and at the one ahead", "as beats", first.clashes(), 2);
        NinetyPlayers turned = Tally.notes("beats 2;part p;leap 5;", "0 80 1", "1 10 1");
        giveAll(turned, LEFT);
        TALLY.due("and at the one ahead", "none is ahead of the first BEAT", turned.clash(0), 0);
        TALLY.due("and at the one ahead", "as beats", turned.clashes(), 2);
        NinetyPlayers low = Tally.notes("beats 2;part p;leap 20;span 87;", "0 40 1", "0 61 2");
        giveAll(low, RIGHT);
        TALLY.due(s, "the low one ends, the high one stays", low.clash(1), 16);
    }

    private static void clashOfCrossedHands() {
        String s = "4, the left one HOLDS a KEY that is not below each one that the right one HOLDS";
        int[][] dues = {{39, 0}, {40, 4 | 8}, {41, 4}, {0, 0}, {87, 4}};
        for (int[] due : dues) {
            NinetyPlayers x = Tally.notes("beats 2;part p;span 87;", "0 " + due[0] + " 1", "0 40 1");
            x.give(0, LEFT);
            x.give(1, RIGHT);
            TALLY.due(s, "left " + due[0] + ", right 40", x.clash(0), due[1]);
        }
        NinetyPlayers x = Tally.notes("beats 3;part p;span 87;leap 87;", "0 30 1", "0 50 1", "0 49 1", "0 70 1");
        x.give(0, LEFT);
        x.give(1, LEFT);
        x.give(3, RIGHT);
        TALLY.due(s, "the left one's highest is below", x.clash(0), 0);
        x.give(2, RIGHT);
        TALLY.due(s, "one of the left is not below one of the right", x.clash(0), 4);
        NinetyPlayers y = Tally.notes("beats 3;part p;leap 87;", "0 60 1", "1 50 1");
        y.give(0, LEFT);
        y.give(1, RIGHT);
        TALLY.due(s, "at different BEATS", y.clashes(), 0);
        y.last(0, 2);
        TALLY.due(s, "at one BEAT", y.clashes(), 2);
        y.pedal(1);
        TALLY.due("HOLDS, not SOUNDS", "a PEDAL sounds it on", y.clashes(), 0);
    }

    private static void clashOfOneKey() {
        String s = "8, two NOTES HELD (by one HAND, too) have one KEY";
        NinetyPlayers x = Tally.notes("beats 3;part p;leap 87;", "0 40 2", "1 40 1", "1 52 1", "2 40 1");
        x.give(0, LEFT);
        x.give(1, LEFT);
        TALLY.due(s, "by one HAND", x.clash(1), 8);
        TALLY.due(s, "at the BEAT ahead", x.clash(0), 0);
        x.give(1, RIGHT);
        TALLY.due(s, "by both", x.clash(1), 4 | 8);
        x.give(1, 0);
        x.give(2, LEFT);
        TALLY.due(s, "an octave is not one KEY", x.clash(1), 0);
        x.give(3, LEFT);
        TALLY.due(s, "one behind the other", x.clashes(), 0);
        x.give(2, 0);
        x.give(1, LEFT);
        x.pedal(1);
        TALLY.due(s, "SOUNDS, but is not HELD any more", x.clash(1), 0);
        NinetyPlayers y = Tally.notes("beats 1;part p;", "0 40 1", "0 41 1", "0 42 1", "0 52 1");
        giveAll(y, RIGHT);
        TALLY.due(s, "none", y.clash(0), 0);
        y.shift(3, -1);
        TALLY.due(s, "the first and the last, shifted", y.clash(0), 8);
    }

    private static void clashesTogether() {
        NinetyPlayers x = Tally.notes("beats 2;part p;fingers 2;span 5;leap 5;", "0 10 1", "1 40 1", "1 46 1", "1 46 1", "1 30 1");
        x.give(0, LEFT);
        x.give(1, LEFT);
        x.give(2, LEFT);
        x.give(3, LEFT);
        x.give(4, RIGHT);
        TALLY.due("CLASHES of a BEAT: all these together", "clash(1)", x.clash(1), 1 | 2 | 4 | 8 | 16);
        TALLY.due("CLASHES of a BEAT: all these together", "clash(0)", x.clash(0), 0);
        TALLY.due("It CAN BE PLAYED, if no BEAT has any", "clashes()", x.clashes(), 2);
        for (int note = 0; note < 5; note++) {
            x.give(note, 0);
        }
        TALLY.due("It CAN BE PLAYED, if no BEAT has any", "all left out", x.clashes(), 0);
    }

    // ---- ACTS

    private static void fortyActs() {
        String s = "40 at most are kept, the oldest go";
        for (int acts = 0; acts <= 85; acts++) {
            NinetyPlayers x = Tally.notes("part p;", "0 40 1 1");
            for (int i = 1; i <= acts; i++) {
                x.louder(0, i % 9 + 1);
            }
            int kept = Math.min(40, acts);
            TALLY.due(s, "about(8) of " + acts, x.about(8), kept);
            TALLY.due(s, "about(9) of " + acts, x.about(9), 0);
            for (int i = 0; i < kept; i++) {
                TALLY.due(s, "undo() of " + acts, x.undo(), true);
            }
            TALLY.due(s, "undo() of " + acts + ", one more", x.undo(), false);
            TALLY.due(s, "as it was ahead of the oldest that is kept", x.note(0, 4), (acts - kept) % 9 + 1);
            TALLY.due(s, "about(9) of " + acts, x.about(9), kept);
            TALLY.due(s, "about(8) of " + acts, x.about(8), 0);
            for (int i = 0; i < kept; i++) {
                TALLY.due(s, "redo() of " + acts, x.redo(), true);
            }
            TALLY.due(s, "redo() of " + acts + ", one more", x.redo(), false);
            TALLY.due(s, "as it was", x.note(0, 4), acts % 9 + 1);
        }
    }

    private static void act(NinetyPlayers x, int kind) {
        switch (kind) {
            case 0:
                x.give(1, RIGHT);
                break;
            case 1:
                x.give(0, 0);
                break;
            case 2:
                x.shift(1, 1);
                break;
            case 3:
                x.louder(1, 9);
                break;
            case 4:
                x.last(1, 9);
                break;
            case 5:
                x.pedal(3);
                break;
            default:
                x.pedal(2);
                break;
        }
    }

    private static void redoTillAnotherAct() {
        for (int kind = 0; kind < 7; kind++) {
            NinetyPlayers x = Tally.notes("beats 4;part p;", "0 40 1", "1 50 1", "2 60 1");
            x.give(0, LEFT);
            x.pedal(2);
            String before = View.of(x, true);
            act(x, kind);
            TALLY.due("(An ACT.)", "about(8), kind " + kind, x.about(8), 3);
            String after = View.of(x, true);
            TALLY.due("UNDO takes back the latest ACT that was not", "undo(), kind " + kind, x.undo(), true);
            TALLY.same("UNDO takes back the latest ACT that was not", "undo(), kind " + kind, View.of(x, true),
                    before.replace("about9=0", "about9=1"));
            TALLY.due("REDO does that again which was taken back last", "redo(), kind " + kind, x.redo(), true);
            TALLY.same("REDO does that again which was taken back last", "redo(), kind " + kind, View.of(x, true), after);
            x.undo();
            x.undo();
            x.undo();
            TALLY.due("that can be redone", "about(9)", x.about(9), 3);
            x.redo();
            x.redo();
            TALLY.due("that can be redone", "about(9)", x.about(9), 1);
            x.shift(2, 1);
            TALLY.due("till another ACT", "about(9)", x.about(9), 0);
            TALLY.due("till another ACT", "redo()", x.redo(), false);
            x.undo();
            TALLY.due("that which was taken back last", "redo()", x.redo(), true);
            TALLY.due("that which was taken back last", "note(2, 2)", x.note(2, 2), 72);
            x.undo();
            act(x, kind);
            TALLY.due("till another ACT", "about(9), kind " + kind, x.about(9), 0);
            TALLY.due("till another ACT", "redo(), kind " + kind, x.redo(), false);
        }
    }

    // ---- what would be

    private static String hands(NinetyPlayers x) {
        StringBuilder hands = new StringBuilder();
        for (int i = 0; i < x.about(14); i++) {
            hands.append(x.lies(i));
        }
        return hands.toString();
    }

    private static void versionIs(String text, int loss, String hands) {
        String s = "VERSION: the LOSS is least; of like ones the first (NOTE by NOTE: left, right, out)";
        NinetyPlayers x = Tally.of(text);
        TALLY.due(s, "version(0) of " + text, x.version(0), loss);
        TALLY.same(s, "version(0) of " + text, hands(x), hands);
        TALLY.due(s, "version(1) of " + text, x.version(1), hands.replace("0", "").length());
        TALLY.same(s, "version(1) of " + text, hands(x), hands);
        int due = 0;
        for (int note = 0; note < x.about(0); note++) {
            if (hands.charAt(note) != '0') {
                due = x.give(note, hands.charAt(note) - '0');
            }
        }
        TALLY.due("it CAN BE PLAYED", text, due, 0);
        TALLY.due("LOSS", text, x.loss(), loss);
    }

    private static void versionOfLikeOnes() {
        versionIs("", 0, "");
        versionIs(Tally.lines("part p;", "0 40 1"), 0, "1");
        versionIs(Tally.lines("part p;missed 0;", "0 40 1"), 0, "1");
        versionIs(Tally.lines("part p;missed 0;", "0 40 1", "0 40 1"), 0, "10");
        versionIs(Tally.lines("part p;missed 3;", "0 40 1", "0 40 1"), 3, "10");
        versionIs(Tally.lines("part p;missed loud;", "0 40 1 3", "0 40 1 4"), 3, "01");
        versionIs(Tally.lines("part p;fingers 1;", "0 40 1", "0 50 1"), 0, "12");
        versionIs(Tally.lines("part p;fingers 1;", "0 50 1", "0 40 1"), 0, "21");
        versionIs(Tally.lines("part p;fingers 1;", "0 40 1", "0 41 1"), 0, "12");
        versionIs(Tally.lines("part p;fingers 1;", "0 41 1", "0 40 1"), 0, "21");
        versionIs(Tally.lines("part p;fingers 1;missed loud;", "0 40 1 1", "0 50 1 1", "0 60 1 1"), 1, "120");
        versionIs(Tally.lines("part p;fingers 1;missed loud;", "0 40 1 1", "0 50 1 1", "0 60 1 2"), 1, "102");
        versionIs(Tally.lines("part p;fingers 1;missed loud;", "0 40 1 1", "0 50 1 2", "0 60 1 2"), 1, "012");
        versionIs(Tally.lines("part p;fingers 1;missed loud;", "0 60 1 2", "0 50 1 2", "0 40 1 2"), 2, "210");
        versionIs(Tally.lines("part p;leap 0;", "0 40 1", "1 41 1", "2 42 1"), 0, "121");
        versionIs(Tally.lines("part p;leap 0;", "0 40 1", "1 41 1", "1 42 2", "2 43 2"), 5, "1201");
        versionIs(Tally.lines("part p;leap 1;", "0 40 1", "1 41 1", "2 42 1"), 0, "111");
        // a note told later, and lower, mends a leap or makes it: at the beat ahead, or at this one
        versionIs(Tally.lines("part p;leap 10;span 40;", "0 60 1", "1 40 1", "0 45 1"), 0, "111");
        versionIs(Tally.lines("part p;leap 10;span 40;", "0 60 1", "1 40 4", "0 45 1"), 0, "111");
        versionIs(Tally.lines("part p;leap 10;span 40;", "0 60 1", "1 55 1", "0 40 1"), 0, "121");
        versionIs(Tally.lines("part p;leap 10;span 40;", "0 30 1", "1 45 1", "1 38 1"), 0, "111");
        versionIs(Tally.lines("part p;leap 10;span 40;", "0 38 1", "1 45 1", "1 20 1"), 0, "122");
        // hands must not cross, whichever notes they are
        versionIs(Tally.lines("part p;fingers 1;", "5 40 1", "0 50 1", "0 40 1"), 0, "121");
        versionIs(Tally.lines("part p;fingers 1;", "0 40 2", "0 60 3", "2 70 1"), 5, "120");
        versionIs(Tally.lines("part p;fingers 1;", "5 40 1", "0 40 2", "0 60 3", "2 70 1"), 5, "1120");
        versionIs(Tally.lines("part p;span 0;fingers 1;", "0 10 1", "0 11 1", "0 12 1", "0 13 1"), 10, "1200");
        versionIs(Tally.lines("part p;span 12;", "0 0 1", "0 12 1", "0 13 1", "0 25 1"), 0, "1122");
        versionIs(Tally.lines("part p;span 11;missed loud;", "0 0 1 9", "0 12 1 1", "0 13 1 9", "0 25 1 9"), 9, "1220");
        String[] one = new String[10];
        Arrays.fill(one, "0 40 1");
        versionIs(Tally.lines("part p;missed 9999;", one), 9 * 999, "1000000000");
        // one score behind the other: nothing of the first is left
        NinetyPlayers anotherScore = Tally.notes("part p;leap 10;span 0;", "0 30 1", "1 45 1", "3 38 1");
        anotherScore.version(0);
        TALLY.same("of what is now", "the first score", hands(anotherScore), "121");
        Tally.tell(anotherScore, Tally.lines("part p;leap 10;span 40;", "0 30 1", "1 45 1", "1 38 1"));
        anotherScore.version(0);
        TALLY.same("of what is now", "the second score", hands(anotherScore), "111");
        Tally.tell(anotherScore, Tally.lines("part p;fingers 1;", "0 40 1", "0 50 1", "0 30 1"));
        anotherScore.version(0);
        TALLY.same("of what is now", "the third score", hands(anotherScore), "120");
        Tally.tell(anotherScore, Tally.lines("part p;fingers 1;", "0 40 3", "0 50 1", "1 60 1"));
        anotherScore.version(0);
        TALLY.same("of what is now", "the fourth score", hands(anotherScore), "122");
        Tally.tell(anotherScore, Tally.lines("part p;fingers 1;", "0 50 1", "0 40 1", "5 40 1"));
        anotherScore.version(0);
        TALLY.same("of what is now", "the fifth score", hands(anotherScore), "211");
        NinetyPlayers pedal = Tally.notes("beats 2;part p;missed loud;", "0 40 2 1", "1 40 1 2");
        TALLY.due("PEDAL as it is", "without", pedal.version(0), 1);
        pedal.pedal(1);
        TALLY.due("PEDAL as it is", "with", pedal.version(0), 0);
        NinetyPlayers anew = Tally.notes("beats 1;part p;fingers 1;", "0 40 1", "0 50 1");
        anew.give(0, RIGHT);
        anew.give(1, RIGHT);
        TALLY.due("given to HANDS anew", "version(0)", anew.version(0), 0);
        TALLY.same("given to HANDS anew", "version(0)", hands(anew), "12");
        TALLY.due("nothing is done", "note(0, 5)", anew.note(0, 5), RIGHT);
    }

    private static void childIs(NinetyPlayers x, int fingers, int span, int loss, String hands) {
        String s = "CHILD: likewise, with so many fingers and such a span as are asked for";
        TALLY.due(s, "child(" + fingers + ", " + span + ")", x.child(fingers, span), loss);
        TALLY.same("The HAND of each NOTE lies there then", "child(" + fingers + ", " + span + ")", hands(x), hands);
    }

    private static void childBounds() {
        NinetyPlayers x = Tally.notes("beats 1;part p;fingers 2;span 12;missed 1;", "0 0 1", "0 1 1", "0 2 1", "0 3 1", "0 4 1", "0 87 1");
        childIs(x, 1, 0, 4, "120000");
        childIs(x, 1, 87, 4, "120000");
        childIs(x, 5, 0, 4, "120000");
        childIs(x, 2, 1, 2, "112200");
        childIs(x, 2, 2, 2, "112200");
        childIs(x, 4, 3, 1, "111120");
        childIs(x, 5, 4, 0, "111112");
        childIs(x, 5, 3, 1, "111120");
        childIs(x, 5, 87, 0, "111112");
        childIs(x, 4, 87, 0, "111122");
        childIs(x, 4, 83, 0, "111122");
        childIs(x, 4, 82, 1, "111120");
        TALLY.due("nothing is done", "about(3), about(4)", x.about(3) * 10 + x.about(4), 122);
        TALLY.due("nothing is done", "version(0)", x.version(0), 2);
        NinetyPlayers empty = new NinetyPlayers();
        childIs(empty, 1, 0, 0, "");
        // leap tells what it told
        NinetyPlayers leap = Tally.notes("beats 2;part p;leap 0;fingers 1;missed loud;", "0 40 2 9", "0 60 1 2", "1 61 1 1");
        childIs(leap, 5, 87, 0, "111");
        childIs(leap, 1, 0, 1, "120");
    }

    private static void forbidsWhatIsNew() {
        String s = "FORBIDS a NOTE in a HAND: CLASHES that some BEATS have, if it is given to that HAND, and have not as it is";
        NinetyPlayers x = Tally.notes("beats 3;part p;fingers 1;span 87;leap 87;", "0 40 1", "0 41 1", "0 42 1", "1 40 1", "0 43 2");
        x.give(0, LEFT);
        TALLY.due(s, "one finger too few", x.forbids(1, LEFT), 1);
        x.give(1, LEFT);
        TALLY.due(s, "as it is already", x.forbids(2, LEFT), 0);
        TALLY.due(s, "another HAND's is another BEAT's none", x.forbids(4, RIGHT), 0);
        x.give(3, LEFT);
        TALLY.due(s, "as one BEAT has it already, but not the other", x.forbids(4, LEFT), 1);
        x.give(1, 0);
        TALLY.due(s, "at both", x.forbids(4, LEFT), 1);
        x.give(0, 0);
        x.give(3, 0);
        TALLY.due("0: none", "forbids(4, 1)", x.forbids(4, LEFT), 0);
        NinetyPlayers all = Tally.notes("beats 2;part p;fingers 1;span 5;leap 5;", "0 10 1", "1 40 1", "1 46 1", "1 46 1");
        all.give(0, LEFT);
        all.give(1, RIGHT);
        all.give(2, RIGHT);
        TALLY.due("FORBIDS, together", "crossed, one key, leap", all.forbids(3, LEFT), 4 | 8 | 16);
        TALLY.due("FORBIDS, together", "one key, the rest is so already", all.forbids(3, RIGHT), 8);
        all.give(1, LEFT);
        TALLY.due("FORBIDS, together", "all but the leap, which is so already", all.forbids(3, LEFT), 1 | 2 | 4 | 8);
        // a note may take a clash away: it is not forbidden what is gone
        NinetyPlayers mends = Tally.notes("beats 2;part p;leap 5;span 87;", "0 40 1", "1 50 1", "1 42 1");
        mends.give(0, LEFT);
        mends.give(1, LEFT);
        TALLY.due(s, "a leap was", mends.clashes(), 2);
        TALLY.due(s, "it mends the leap", mends.forbids(2, LEFT), 0);
    }

    private static void giveWayIs(NinetyPlayers x, int note, int hand, int due) {
        String s = "GIVE WAY: the fewest others; of like ones these that are MISSED least together, then the least set as bits";
        TALLY.due(s, "giveway(" + note + ", " + hand + ", 1)", x.giveway(note, hand, 1), due);
        TALLY.due(s, "giveway(" + note + ", " + hand + ", 0)", x.giveway(note, hand, 0), Integer.bitCount(due));
    }

    private static void giveWayOfLikeOnes() {
        NinetyPlayers free = Tally.notes("beats 1;part p;", "0 40 1", "0 41 1");
        giveWayIs(free, 0, LEFT, 0);
        free.give(1, RIGHT);
        giveWayIs(free, 0, LEFT, 0);
        giveWayIs(free, 0, RIGHT, 0);
        // any two of three have to go
        String[] three = {"0 40 1 5", "0 41 1 5", "0 42 1 5", "0 43 1 1"};
        NinetyPlayers x = Tally.notes("beats 1;part p;fingers 2;missed loud;", three);
        x.give(0, LEFT);
        x.give(1, LEFT);
        x.give(2, LEFT);
        giveWayIs(x, 3, LEFT, 1 | 2);
        x.louder(0, 6);
        giveWayIs(x, 3, LEFT, 2 | 4);
        x.louder(1, 6);
        giveWayIs(x, 3, LEFT, 1 | 4);
        x.louder(2, 6);
        giveWayIs(x, 3, LEFT, 1 | 2);
        x.louder(2, 7);
        giveWayIs(x, 3, LEFT, 1 | 2);
        x.louder(0, 8);
        giveWayIs(x, 3, LEFT, 2 | 4);
        // one that is missed much rather than two that are missed little
        NinetyPlayers few = Tally.notes("beats 2;part p;fingers 2;leap 87;missed loud;", "0 40 2 9", "0 41 1 1", "1 42 1 1", "0 43 2 5");
        few.give(0, LEFT);
        few.give(1, LEFT);
        few.give(2, LEFT);
        giveWayIs(few, 3, LEFT, 1);
        giveWayIs(few, 3, RIGHT, 0);
        few.shift(3, -1);
        giveWayIs(few, 3, RIGHT, 7);
        // the other HAND's give way, too; one that clashes by itself with others goes as well
        NinetyPlayers other = Tally.notes("beats 1;part p;missed loud;", "0 40 1 2", "0 41 1 2", "0 40 1 9");
        other.give(0, RIGHT);
        other.give(1, RIGHT);
        giveWayIs(other, 2, LEFT, 1);
        giveWayIs(other, 2, RIGHT, 1);
        NinetyPlayers apart = Tally.notes("beats 4;part p;missed loud;", "0 40 1 3", "0 40 1 2", "3 50 1 9");
        apart.give(0, LEFT);
        apart.give(1, LEFT);
        giveWayIs(apart, 2, RIGHT, 2);
        apart.louder(1, 3);
        giveWayIs(apart, 2, RIGHT, 1);
        TALLY.due("nothing is done", "about(15)", apart.about(15), 2);
    }

    private static void letinIs(String call, NinetyPlayers x, int note, int octaves, int hand) {
        String s = "SHIFT of a NOTE: by how few octaves; of like ones up, then the left HAND";
        TALLY.due(s, call + ", letin(" + note + ", 0)", x.letin(note, 0), octaves);
        TALLY.due(s, call + ", letin(" + note + ", 1)", x.letin(note, 1), hand);
    }

    private static void shiftOfLikeOnes() {
        letinIs("free", Tally.notes("part p;", "0 40 1"), 0, 0, LEFT);
        NinetyPlayers x = Tally.notes("beats 1;part p;fingers 1;", "0 40 1", "0 40 1", "0 45 1", "0 35 1");
        x.give(0, LEFT);
        letinIs("only the right one, above", x, 2, 0, RIGHT);
        letinIs("not shifted it is below", x, 3, 1, RIGHT);
        letinIs("one key: up", x, 1, 1, RIGHT);
        x.give(0, RIGHT);
        letinIs("only the left one, below", x, 3, 0, LEFT);
        letinIs("one key: down", x, 1, -1, LEFT);
        letinIs("not shifted it is above", x, 2, -1, LEFT);
        // up and down are alike: up; and both hands are: the left one
        NinetyPlayers y = Tally.notes("beats 1;part p;fingers 2;span 24;", "0 40 1", "0 40 1");
        y.give(0, LEFT);
        letinIs("up, by the left one", y, 1, 1, LEFT);
        y.give(0, RIGHT);
        letinIs("up, by the right one", y, 1, 1, RIGHT);
        NinetyPlayers two = Tally.notes("beats 1;part p;fingers 2;span 24;", "0 40 1", "0 52 1", "0 40 1", "0 28 1");
        two.give(0, LEFT);
        two.give(1, LEFT);
        letinIs("two octaves up, by the right one; one down has no finger", two, 2, 2, RIGHT);
        NinetyPlayers fewer = Tally.notes("beats 1;part p;fingers 3;span 24;", "0 40 1", "0 52 1", "0 40 1");
        fewer.give(0, LEFT);
        fewer.give(1, LEFT);
        letinIs("one octave down rather than two up", fewer, 2, -1, LEFT);
        TALLY.due("nothing is done", "note(2, 2)", fewer.note(2, 2), 40);
    }

    private static void shiftWithinTheKeys() {
        // the left hand has its finger at the key, at the note's beat; the right one must be above
        for (int key : new int[] {74, 75, 76, 79, 80}) {
            NinetyPlayers x = Tally.notes("beats 1;part p;fingers 1;", "0 " + key + " 1", "0 " + key + " 1");
            x.give(0, LEFT);
            int due = key + 12 <= 87 ? 1 : -100;
            letinIs("KEYS 0 .. 87, from " + key, x, 1, due, due == 1 ? RIGHT : -100);
        }
        for (int key : new int[] {10, 11, 12, 13}) {
            NinetyPlayers x = Tally.notes("beats 1;part p;fingers 1;", "0 " + key + " 1", "0 " + key + " 1");
            x.give(0, RIGHT);
            int due = key - 12 >= 0 ? -1 : -100;
            letinIs("KEYS 0 .. 87, from " + key, x, 1, due, due == -1 ? LEFT : -100);
        }
        // as far as can be: seven octaves, to 87 and to 0
        NinetyPlayers up = Tally.notes("beats 2;part p;fingers 1;leap 2;span 87;", "0 87 1", "0 86 1", "1 3 1");
        up.give(0, RIGHT);
        up.give(1, LEFT);
        letinIs("seven up", up, 2, 7, LEFT);
        NinetyPlayers down = Tally.notes("beats 2;part p;fingers 1;leap 2;span 87;", "0 1 1", "0 2 1", "1 84 1");
        down.give(0, LEFT);
        down.give(1, RIGHT);
        letinIs("seven down", down, 2, -7, LEFT);
        NinetyPlayers six = Tally.notes("beats 2;part p;fingers 1;leap 2;span 87;", "0 15 1", "0 16 1", "1 87 1");
        six.give(0, LEFT);
        six.give(1, RIGHT);
        letinIs("six down, by the left one", six, 2, -6, LEFT);
    }

    private static void shiftThatCantBe() {
        NinetyPlayers x = Tally.notes("beats 1;part p;fingers 1;", "0 40 1", "0 50 1", "0 45 1", "0 40 1");
        x.give(0, LEFT);
        x.give(1, RIGHT);
        letinIs("-100 if it can't be so: no finger", x, 2, -100, -100);
        x.give(1, 0);
        letinIs("it can be so again", x, 2, 0, RIGHT);
        NinetyPlayers clashing = Tally.notes("beats 4;part p;", "0 40 1", "0 40 1", "3 60 1");
        clashing.give(0, LEFT);
        clashing.give(1, LEFT);
        letinIs("-100 if it can't be so: another BEAT has CLASHES", clashing, 2, -100, -100);
        clashing.give(1, 0);
        letinIs("it can be so again", clashing, 2, 0, LEFT);
    }

    private static void pedalsAre(String call, NinetyPlayers x, int due) {
        String s = "PEDALS: the fewest BEATS with PEDAL by which it CAN BE PLAYED; of like ones the least set as bits";
        TALLY.due(s, call + ", pedals(1)", x.pedals(1), due);
        TALLY.due(s, call + ", pedals(0)", x.pedals(0), due < 0 ? -1 : Integer.bitCount(due));
    }

    private static void pedalsOfLikeOnes() {
        pedalsAre("no notes", new NinetyPlayers(), 0);
        NinetyPlayers x = Tally.notes("beats 6;part p;fingers 1;leap 87;", "0 40 6", "3 45 3");
        pedalsAre("all left out", x, 0);
        x.give(0, LEFT);
        pedalsAre("none is needed", x, 0);
        x.pedal(4);
        pedalsAre("those that have it now do not count", x, 0);
        x.give(1, LEFT);
        pedalsAre("at 1, 2 or 3: at 1", x, 2);
        for (int beat = 0; beat < 6; beat++) {
            x.pedal(beat);
        }
        pedalsAre("all anew", x, 2);
        TALLY.due("nothing is done", "about(7)", x.about(7), 63 - 16);
        // one late pedal rather than two early ones; the note at 3 must be heard to its end
        NinetyPlayers last = Tally.notes("beats 6;part p;fingers 1;leap 87;", "4 40 2", "5 45 1");
        giveAll(last, LEFT);
        pedalsAre("at the last BEAT", last, 32);
        NinetyPlayers two = Tally.notes("beats 6;part p;fingers 1;leap 87;", "0 40 6", "2 45 4", "4 50 2");
        giveAll(two, LEFT);
        pedalsAre("two: 1 or 2, 3 or 4", two, 2 | 8);
        NinetyPlayers one = Tally.notes("beats 6;part p;fingers 1;leap 87;", "0 40 3", "1 70 2", "2 45 1");
        one.give(0, LEFT);
        one.give(1, RIGHT);
        one.give(2, LEFT);
        pedalsAre("one for both", one, 2);
        // three fingers too many at 3; a pedal at 2 alone makes a leap from 42 to 49, with one at 1 from 45
        NinetyPlayers late = Tally.notes("beats 4;part p;fingers 2;leap 6;span 87;", "2 49 3", "0 42 2", "1 45 3", "3 51 1");
        giveAll(late, LEFT);
        pedalsAre("one late rather than two early", late, 8);
        NinetyPlayers leap = Tally.notes("beats 2;part p;fingers 1;leap 20;", "0 40 2", "1 60 1");
        giveAll(leap, RIGHT);
        pedalsAre("as far as leap tells from the one that is cut", leap, 2);
        Tally.tell(leap, Tally.lines("beats 2;part p;fingers 1;leap 19;", "0 40 2", "1 60 1"));
        giveAll(leap, RIGHT);
        pedalsAre("further than leap tells from the one that is cut", leap, -1);
        NinetyPlayers most = Tally.notes("beats 12;part p;fingers 1;leap 87;", "0 40 2", "1 41 2", "2 42 2", "3 43 2", "4 44 2", "5 45 2",
                "6 46 2", "7 47 2", "8 48 2", "10 49 2");
        giveAll(most, RIGHT);
        pedalsAre("one for each but the first and the one behind a rest", most, bits(1, 8));
        most.shift(9, -1);
        most.last(8, 3);
        pedalsAre("one more", most, bits(1, 8) | 1 << 9);
        most.last(8, 2);
        pedalsAre("as before", most, bits(1, 8));
    }

    private static void pedalsThatCantBe() {
        NinetyPlayers x = Tally.notes("beats 3;part p;fingers 1;", "0 40 1", "0 41 1");
        giveAll(x, LEFT);
        pedalsAre("NONE if by none: two at one BEAT", x, -1);
        x.give(1, RIGHT);
        pedalsAre("they can be", x, 0);
        NinetyPlayers leap = Tally.notes("beats 3;part p;leap 5;", "0 40 1", "1 50 1");
        giveAll(leap, LEFT);
        pedalsAre("NONE if by none: a leap from BEAT to BEAT", leap, -1);
        leap.last(0, 3);
        pedalsAre("held on, the low one mends it", leap, 0);
    }

    private static void spreadAndLeaps() {
        NinetyPlayers x = Tally.notes("beats 4;part p;", "0 0 1", "0 87 1", "1 40 1", "3 10 1");
        for (int hand = LEFT; hand <= RIGHT; hand++) {
            TALLY.due("SPREAD of a HAND", "nothing is HELD", x.spread(hand), 0);
            TALLY.due("LEAPS of a HAND", "nothing is HELD", x.leaps(hand), 0);
        }
        x.give(0, LEFT);
        TALLY.due("SPREAD of a HAND", "one NOTE", x.spread(LEFT), 0);
        x.give(1, LEFT);
        TALLY.due("SPREAD of a HAND", "0 and 87", x.spread(LEFT), 87);
        TALLY.due("SPREAD of a HAND", "the other", x.spread(RIGHT), 0);
        x.give(2, LEFT);
        TALLY.due("lowest KEYS at a BEAT and the one ahead", "0 to 40", x.leaps(LEFT), 40);
        x.give(0, 0);
        TALLY.due("lowest KEYS at a BEAT and the one ahead", "87 to 40", x.leaps(LEFT), 47);
        x.give(3, LEFT);
        TALLY.due("both with some HELD", "40, a rest, 10", x.leaps(LEFT), 47);
        x.give(1, 0);
        TALLY.due("both with some HELD", "40, a rest, 10", x.leaps(LEFT), 0);
        x.last(2, 2);
        TALLY.due("both with some HELD", "40, 40, 10", x.leaps(LEFT), 30);
        x.pedal(2);
        TALLY.due("HELD", "40, SOUNDS, 10", x.leaps(LEFT), 0);
        NinetyPlayers most = Tally.notes("beats 3;part p;", "0 10 1", "0 15 1", "1 10 1", "1 30 1", "2 11 1", "2 14 1");
        giveAll(most, RIGHT);
        TALLY.due("the most", "5, 20, 3", most.spread(RIGHT), 20);
        TALLY.due("the most", "0, 1", most.leaps(RIGHT), 1);
    }

    private static void blurBounds() {
        String s = "twos of NOTES that SOUND and whose KEYS differ by 1 or 2, one at least not HELD";
        int[] dues = {0, 1, 1, 0, 0};
        for (int apart = 0; apart < 5; apart++) {
            for (int turn = -1; turn <= 1; turn += 2) {
                int other = 40 + turn * apart;
                NinetyPlayers x = Tally.notes("beats 3;part p;", "0 40 1", "1 " + other + " 1");
                giveAll(x, LEFT);
                TALLY.due(s, apart + " apart, not at one BEAT", x.blur(), 0);
                x.pedal(1);
                TALLY.due(s, apart + " apart, one is HELD", x.blur(), dues[apart]);
                x.pedal(2);
                TALLY.due("at each BEAT, .. together", apart + " apart, then none", x.blur(), 2 * dues[apart]);
                NinetyPlayers both = Tally.notes("beats 3;part p;", "0 40 1", "0 " + other + " 1");
                giveAll(both, LEFT);
                TALLY.due(s, apart + " apart, both are HELD", both.blur(), 0);
                both.pedal(1);
                TALLY.due(s, apart + " apart, none is HELD", both.blur(), dues[apart]);
                both.give(1, 0);
                TALLY.due(s, "one is left out", both.blur(), 0);
            }
        }
        NinetyPlayers three = Tally.notes("beats 2;part p;", "0 40 1", "0 41 1", "1 42 1");
        giveAll(three, RIGHT);
        three.pedal(1);
        TALLY.due(s, "three twos", three.blur(), 3);
    }

    private static void openBounds() {
        String s = "OPEN at a BEAT is a NOTE that SOUNDS, if no other one that SOUNDS is more than ear tells LOUDER";
        for (int ear = 0; ear <= 9; ear++) {
            for (int loud = 1; loud <= 9; loud++) {
                NinetyPlayers x = Tally.notes("beats 2;part p;ear " + ear + ";", "0 40 1 1", "0 41 1 " + loud, "0 42 1 9");
                x.give(0, LEFT);
                TALLY.due(s, "alone", x.open(0), 1);
                x.give(1, LEFT);
                TALLY.due(s, "by " + (loud - 1) + ", ear " + ear, x.open(0), loud - 1 > ear ? 2 : 3);
                TALLY.due(s, "none SOUNDS", x.open(1), 0);
            }
        }
        NinetyPlayers x = Tally.notes("beats 3;part p;ear 2;", "0 40 1 9", "1 41 1 6", "1 42 1 7");
        giveAll(x, LEFT);
        TALLY.due("no other one that SOUNDS", "it does not SOUND any more", x.open(1), 6);
        x.pedal(1);
        TALLY.due("no other one that SOUNDS", "by PEDAL it does", x.open(1), 5);
        NinetyPlayers most = Tally.notes("beats 1;part p;ear 2;", "0 40 1 5", "0 41 1 7", "0 42 1 8", "0 43 1 6");
        giveAll(most, RIGHT);
        TALLY.due(s, "of four", most.open(0), 2 | 4 | 8);
    }

    private static void lostBounds() {
        String s = "LOST is a NOTE of a tune that is given to a HAND and not OPEN at the BEAT at which it begins";
        String head = "beats 3;part t tune;part b bass;part f;ear 2;";
        NinetyPlayers x = Tally.of(head + "note a of t at 0 key 40 long 3 loud 4;note b of b at 0 key 20 long 1 loud 4;"
                + "note c of f at 0 key 30 long 1 loud 4;note d of f at 0 key 60 long 1 loud 6;note e of f at 1 key 61 long 2 loud 9;");
        TALLY.due(s, "nothing SOUNDS", x.lost(), 0);
        x.give(3, RIGHT);
        TALLY.due(s, "it is left out", x.lost(), 0);
        x.give(0, LEFT);
        x.give(1, LEFT);
        x.give(2, LEFT);
        TALLY.due(s, "just OPEN", x.lost(), 0);
        x.louder(3, 7);
        TALLY.due(s, "not OPEN any more; bass and filling are never LOST", x.lost(), 1);
        x.louder(3, 6);
        x.give(4, RIGHT);
        TALLY.due("at the BEAT at which it begins", "later it is not OPEN", x.open(1), 16);
        TALLY.due("at the BEAT at which it begins", "later it is not OPEN", x.lost(), 0);
        x.give(0, 0);
        x.louder(3, 9);
        TALLY.due("that is given to a HAND", "left out again", x.lost(), 0);
        NinetyPlayers rings = Tally.of(head + "note a of f at 0 key 40 long 1 loud 9;note b of t at 1 key 50 long 1 loud 3;");
        giveAll(rings, LEFT);
        TALLY.due(s, "what is louder is gone", rings.lost(), 0);
        rings.pedal(1);
        TALLY.due(s, "what is louder SOUNDS on", rings.lost(), 2);
        rings.undo();
        TALLY.due(s, "what is louder is gone again", rings.lost(), 0);
        rings.last(0, 2);
        TALLY.due(s, "what is louder is HELD on", rings.lost(), 2);
        NinetyPlayers two = Tally.of(head + "note a of f at 0 key 40 long 3 loud 9;note b of t at 0 key 50 long 1 loud 6;"
                + "note c of t at 1 key 60 long 1 loud 6;note d of t at 2 key 60 long 1 loud 7;");
        giveAll(two, LEFT);
        TALLY.due("as bits", "two are LOST", two.lost(), 2 | 4);
    }

    private static void gapsBounds() {
        String s = "GAPS: BEATS at which no NOTE of a tune SOUNDS";
        NinetyPlayers x = Tally.of("beats 4;part t tune;part b bass;note a of t at 1 key 40 long 1;note b of b at 0 key 20 long 4;");
        TALLY.due(s, "all left out", x.gaps(), 15);
        x.give(1, LEFT);
        TALLY.due(s, "a bass fills no gap", x.gaps(), 15);
        x.give(0, RIGHT);
        TALLY.due(s, "at 1", x.gaps(), 15 - 2);
        x.pedal(2);
        TALLY.due(s, "PEDAL at 2", x.gaps(), 15 - 2 - 4);
        x.last(0, 12);
        TALLY.due(s, "PEDAL at 2 ends what is HELD", x.gaps(), 15 - 2 - 4);
        x.pedal(2);
        TALLY.due(s, "to the last BEAT", x.gaps(), 1);
        NinetyPlayers y = Tally.of("beats 4;part b bass;part t tune;part f;note a of b at 0 key 20 long 4;note b of t at 2 key 40 long 1;"
                + "note c of f at 1 key 60 long 3;");
        giveAll(y, LEFT);
        TALLY.due(s, "at 2 alone", y.gaps(), 1 | 2 | 8);
    }

    private static void easierBounds() {
        String s = "EASIER by a NOTE: how many BEATS less have CLASHES, if it is left out (below 0, too)";
        NinetyPlayers x = Tally.notes("beats 4;part p;fingers 1;leap 87;span 87;", "0 40 4", "1 41 2", "3 60 1");
        giveAll(x, LEFT);
        TALLY.due(s, "all three", x.clashes(), 14);
        TALLY.due(s, "easier(0)", x.easier(0), 3);
        TALLY.due(s, "easier(1)", x.easier(1), 2);
        TALLY.due(s, "easier(2)", x.easier(2), 1);
        NinetyPlayers none = Tally.notes("beats 4;part p;", "0 40 4");
        none.give(0, LEFT);
        TALLY.due(s, "none had any", none.easier(0), 0);
        NinetyPlayers below = Tally.notes("beats 4;part p;leap 5;span 87;", "0 40 1", "1 40 3", "1 60 1", "2 80 1", "3 70 1");
        giveAll(below, LEFT);
        TALLY.due(s, "none has any", below.clashes(), 0);
        TALLY.due("below 0, too", "it kept three leaps small", below.easier(1), -3);
        TALLY.due("below 0, too", "nothing is done", below.clashes(), 0);
    }

    private static void thickestAndBusiestOfLikeOnes() {
        String s = "The BEAT at which most NOTES are HELD; of like ones the first";
        TALLY.due(s, "no notes", new NinetyPlayers().thickest(), 0);
        TALLY.due(s, "no notes", new NinetyPlayers().busiest(LEFT), 0);
        TALLY.due(s, "no notes", new NinetyPlayers().busiest(RIGHT), 0);
        NinetyPlayers x = Tally.notes("beats 5;part p;", "1 40 2", "2 41 1", "3 50 2", "4 51 1", "4 52 1");
        TALLY.due(s, "all left out", x.thickest(), 0);
        x.give(0, LEFT);
        TALLY.due(s, "of like ones the first", x.thickest(), 1);
        x.give(1, LEFT);
        TALLY.due(s, "two at 2", x.thickest(), 2);
        x.give(2, RIGHT);
        x.give(3, RIGHT);
        TALLY.due(s, "two at 2, two at 4", x.thickest(), 2);
        TALLY.due("at which a HAND HOLDS most NOTES; of like ones the first", "left", x.busiest(LEFT), 2);
        TALLY.due("at which a HAND HOLDS most NOTES; of like ones the first", "right", x.busiest(RIGHT), 4);
        x.give(4, LEFT);
        TALLY.due("by both HANDS", "three at 4", x.thickest(), 4);
        TALLY.due("at which a HAND HOLDS most NOTES; of like ones the first", "left", x.busiest(LEFT), 2);
        x.pedal(2);
        TALLY.due("HELD, not SOUNDS", "one at 1, one at 2, one at 4", x.busiest(LEFT), 1);
        x.pedal(4);
        TALLY.due("HELD, not SOUNDS", "thickest", x.thickest(), 4);
        NinetyPlayers y = Tally.notes("beats 3;part p;", "0 40 3", "1 50 1", "0 60 1");
        y.give(0, LEFT);
        TALLY.due(s, "one at 0, 1 and 2", y.thickest(), 0);
        TALLY.due(s, "one at 0, 1 and 2", y.busiest(LEFT), 0);
        y.give(1, RIGHT);
        TALLY.due(s, "two at 1", y.thickest(), 1);
        y.give(2, RIGHT);
        TALLY.due(s, "two at 0 and 1", y.thickest(), 0);
        TALLY.due(s, "one at 0 and 1", y.busiest(RIGHT), 0);
    }

    private static void lawBounds() {
        String s = "How many BEATS would have CLASHES, if span told n (0 .. 87)";
        NinetyPlayers x = Tally.notes("beats 5;part p;span 3;leap 87;", "0 0 1", "0 87 1", "1 40 1", "1 41 1", "2 40 1", "2 52 1", "4 7 1", "4 7 1");
        giveAll(x, LEFT);
        int[][] dues = {{0, 4}, {1, 3}, {11, 3}, {12, 2}, {86, 2}, {87, 1}};
        for (int[] due : dues) {
            TALLY.due(s, "law(" + due[0] + ")", x.law(due[0]), due[1]);
        }
        TALLY.due("nothing is done", "about(3)", x.about(3), 3);
        TALLY.due("nothing is done", "clashes()", x.clashes(), 1 | 4 | 16);
    }

    private static void dearestOfLikeOnes() {
        String s = "The NOTE left out that is MISSED most; of like ones the first; NONE if there is none such";
        NinetyPlayers x = Tally.notes("part p;missed loud;", "0 1 1 4", "0 2 1 6", "0 3 1 6", "0 4 1 5");
        int[] due = {1, 2, 3, 0, -1};
        for (int i = 0; i < due.length; i++) {
            TALLY.due(s, "dearest(), " + i + " given", x.dearest(), due[i]);
            x.give(due[i], LEFT);
        }
        TALLY.due(s, "of no NOTES", new NinetyPlayers().dearest(), -1);
        TALLY.due(s, "MISSED 0", Tally.notes("part p;missed 0;", "0 1 1", "0 2 1").dearest(), 0);
        TALLY.due(s, "MISSED 999 at most", Tally.notes("part p;missed key*1000;", "0 0 1", "0 1 1", "0 2 1").dearest(), 1);
    }

    private static void couldEachByItself() {
        String s = "NOTES left out that could be given to this HAND, each by itself, so that no BEAT has a CLASH that it has not now";
        NinetyPlayers x = Tally.notes("beats 1;part p;fingers 1;", "0 40 1", "0 50 1", "0 45 1");
        TALLY.due("each by itself", "could(1)", x.could(LEFT), 7);
        TALLY.due("each by itself", "could(2)", x.could(RIGHT), 7);
        x.give(2, LEFT);
        TALLY.due(s, "could(1)", x.could(LEFT), 0);
        TALLY.due(s, "could(2)", x.could(RIGHT), 2);
        x.give(2, RIGHT);
        TALLY.due(s, "could(1)", x.could(LEFT), 1);
        TALLY.due(s, "could(2)", x.could(RIGHT), 0);
        x.give(0, LEFT);
        x.give(1, RIGHT);
        TALLY.due("NOTES left out", "none is", x.could(LEFT) | x.could(RIGHT), 0);
        NinetyPlayers y = Tally.notes("beats 2;part p;fingers 1;leap 87;", "0 40 1", "0 41 1", "0 42 1", "0 43 2", "1 44 1");
        y.give(0, LEFT);
        y.give(1, LEFT);
        y.give(4, LEFT);
        TALLY.due("that it has not now", "at 0 it is so already, at 1 not", y.could(LEFT), 4);
    }

    // ---- HEARD

    private static void thirtyHeard() {
        String s = "HEARD, 30 at most";
        NinetyPlayers x = Tally.notes("part p;", "0 40 1");
        for (int i = 0; i < 30; i++) {
            TALLY.due(s, "about(10) of " + i, x.about(10), i);
            TALLY.due("its number", "heard", x.heard(0, 40, true), i);
        }
        TALLY.due(s, "the 31st", x.heard(0, 40, false), -1);
        TALLY.due(s, "nothing was done", x.sets(0), 1);
        TALLY.due(s, "about(10)", x.about(10), 30);
        TALLY.due(s, "untell(29)", x.untell(29), true);
        TALLY.due(s, "untell(30)", x.untell(30), false);
        TALLY.due(s, "the 31st", x.heard(0, 40, false), -1);
        Tally.tell(x, "part p;note a of p at 0 key 40 long 1;");
        TALLY.due("nothing is HEARD", "the first of another SCORE", x.heard(0, 40, false), 0);
        TALLY.due("nothing is HEARD", "sets(0)", x.sets(0), 1);
        TALLY.due("nothing is HEARD", "sure(0, 0)", x.sure(0, 0), 0);
    }

    private static void countsAtK() {
        String told = "that counts that was TOLD at k or before";
        String untold = "not UNTOLD at k or before";
        NinetyPlayers x = Tally.notes("part p;", "0 40 1", "0 41 1");
        x.later(10);
        x.heard(0, 40, true);
        int[][] first = {{9, 4}, {10, 2}, {11, 2}, {Integer.MIN_VALUE, 4}, {-1, 4}, {0, 4}, {Integer.MAX_VALUE, 2}};
        for (int[] due : first) {
            TALLY.due(told, "sets(" + due[0] + ")", x.sets(due[0]), due[1]);
            TALLY.due(told, "sure(0, " + due[0] + ")", x.sure(0, due[0]), due[1] == 2 ? 1 : -2);
            TALLY.due(told, "ask(0, " + due[0] + ")", x.ask(0, due[0]), due[1] == 2 ? 1 : 0);
            TALLY.due(told, "ask(1, " + due[0] + ")", x.ask(1, due[0]), due[1] / 2);
        }
        x.later(10);
        x.untell(0);
        int[][] second = {{9, 4}, {10, 2}, {19, 2}, {20, 4}, {21, 4}, {Integer.MAX_VALUE, 4}, {Integer.MIN_VALUE, 4}};
        for (int[] due : second) {
            TALLY.due(untold, "sets(" + due[0] + ")", x.sets(due[0]), due[1]);
        }
        x.heard(0, 41, false);
        x.untell(1);
        for (int k = 18; k <= 22; k++) {
            TALLY.due("UNTOLD at a later one or the same", "sets(" + k + ")", x.sets(k), k < 20 ? 2 : 4);
        }
        x.later(1);
        TALLY.due("UNTOLD: false if it is so already", "untell(0)", x.untell(0), false);
        TALLY.due("nothing was done", "sets(20)", x.sets(20), 4);
        NinetyPlayers at0 = Tally.notes("part p;", "0 40 1");
        at0.heard(0, 40, true);
        TALLY.due("a TIME (0 at first)", "sets(-1)", at0.sets(-1), 2);
        TALLY.due("a TIME (0 at first)", "sets(0)", at0.sets(0), 1);
        at0.untell(0);
        TALLY.due("UNTOLD at the same", "sets(0)", at0.sets(0), 2);
        TALLY.due("UNTOLD at the same", "sets(1)", at0.sets(1), 2);
    }

    private static void heardOfTheScoreAsTold() {
        String s = "of the score as it was told (no PEDAL)";
        for (int beat = 0; beat < 6; beat++) {
            NinetyPlayers x = Tally.notes("beats 6;part p;", "2 40 3");
            x.heard(beat, 40, true);
            TALLY.due("at a BEAT a KEY SOUNDED", "beat " + beat, x.sets(0), beat >= 2 && beat <= 4 ? 1 : 0);
            NinetyPlayers not = Tally.notes("beats 6;part p;", "2 40 3");
            not.heard(beat, 40, false);
            TALLY.due("or did not", "beat " + beat, not.sets(0), beat >= 2 && beat <= 4 ? 1 : 2);
            NinetyPlayers done = Tally.notes("beats 6;part p;", "2 40 3");
            done.heard(beat, 40, false);
            done.give(0, LEFT);
            done.shift(0, 1);
            done.last(0, 1);
            done.pedal(5);
            TALLY.due(s, "beat " + beat, done.sets(0), beat >= 2 && beat <= 4 ? 1 : 2);
        }
        for (int key : new int[] {0, 39, 41, 52, 87}) {
            NinetyPlayers x = Tally.notes("beats 6;part p;", "2 40 3");
            x.heard(2, key, true);
            TALLY.due("a KEY", "key " + key, x.sets(0), 0);
        }
        NinetyPlayers ends = Tally.notes("beats 3;part p;", "2 0 12", "0 87 1");
        ends.heard(2, 0, true);
        ends.heard(0, 87, true);
        TALLY.due("a BEAT, a KEY 0 .. 87", "both were played", ends.sets(0), 1);
    }

    private static void setsSureAsk() {
        TALLY.due("the empty one, too", "of no NOTES", new NinetyPlayers().sets(0), 1);
        NinetyPlayers one = Tally.notes("part p;", "0 40 1");
        TALLY.due("the empty one, too", "of one NOTE", one.sets(0), 2);
        String[] ten = new String[10];
        for (int i = 0; i < 10; i++) {
            ten[i] = "0 " + i + " 1";
        }
        NinetyPlayers x = Tally.notes("part p;", ten);
        TALLY.due("sets of NOTES", "of ten", x.sets(0), 1024);
        TALLY.due("of like ones the first", "ask(0, 0)", x.ask(0, 0), 0);
        TALLY.due("how many are left at the most", "ask(1, 0)", x.ask(1, 0), 512);
        for (int i = 0; i < 10; i++) {
            TALLY.due("the fewest of these at the most; of like ones the first", "ask(0, 0)", x.ask(0, 0), i);
            TALLY.due("how many are left at the most", "ask(1, 0)", x.ask(1, 0), 512 >> i);
            x.heard(0, i, i % 2 == 0);
            TALLY.due("SURE of a NOTE: whether it was played", "sure(" + i + ", 0)", x.sure(i, 0), 1 - i % 2);
            if (i < 9) {
                TALLY.due("-2 if it is not the same in all", "sure(" + (i + 1) + ", 0)", x.sure(i + 1, 0), -2);
            }
        }
        TALLY.due("SETS", "one is left", x.sets(0), 1);
        TALLY.due("of like ones the first", "ask(0, 0) of one", x.ask(0, 0), 0);
        TALLY.due("how many are left at the most", "ask(1, 0) of one", x.ask(1, 0), 1);
        x.heard(0, 0, false);
        TALLY.due("NONE if there are no SETS", "sets(0)", x.sets(0), 0);
        TALLY.due("NONE if there are no SETS", "sure(0, 0)", x.sure(0, 0), -1);
        TALLY.due("NONE if there are no SETS", "ask(0, 0)", x.ask(0, 0), -1);
        TALLY.due("NONE if there are no SETS", "ask(1, 0)", x.ask(1, 0), -1);
        TALLY.due("NONE if there are .. no NOTES", "ask(0, 0)", new NinetyPlayers().ask(0, 0), -1);
        TALLY.due("NONE if there are .. no NOTES", "ask(1, 0)", new NinetyPlayers().ask(1, 0), -1);
        // three notes of one key: to know of one of them leaves 4 at the most, of the fourth note 7
        NinetyPlayers most = Tally.notes("beats 1;part p;", "0 50 1", "0 40 1", "0 40 1", "0 40 1");
        most.heard(0, 40, true);
        TALLY.due("would leave the fewest of these at the most", "ask(0, 0)", most.ask(0, 0), 0);
        TALLY.due("would leave the fewest of these at the most", "ask(1, 0)", most.ask(1, 0), 7);
        most.heard(0, 50, false);
        TALLY.due("would leave the fewest of these at the most", "ask(0, 0)", most.ask(0, 0), 1);
        TALLY.due("would leave the fewest of these at the most", "ask(1, 0)", most.ask(1, 0), 4);
    }

    private static void timeBounds() {
        String s = "So much later (0 .. 1000): the TIME";
        NinetyPlayers x = new NinetyPlayers();
        TALLY.due(s, "later(0)", x.later(0), 0);
        TALLY.due(s, "later(1)", x.later(1), 1);
        TALLY.due(s, "later(999)", x.later(999), 1000);
        TALLY.due(s, "later(1000)", x.later(1000), 2000);
        for (int time = 3000; time <= 99000; time += 1000) {
            TALLY.due(s, "later(1000)", x.later(1000), time);
        }
        String most = "NONE if it would be above 100,000";
        TALLY.due(most, "later(999)", x.later(999), 99999);
        TALLY.due(most, "later(2)", x.later(2), -1);
        TALLY.due(most, "later(1000)", x.later(1000), -1);
        TALLY.due(most, "about(11)", x.about(11), 99999);
        TALLY.due(most, "later(1)", x.later(1), 100000);
        TALLY.due(most, "later(1)", x.later(1), -1);
        TALLY.due(most, "later(0)", x.later(0), 100000);
        Tally.tell(x, "part p;note a of p at 0 key 40 long 1;");
        TALLY.due("the TIME stays", "about(11)", x.about(11), 100000);
        x.heard(0, 40, true);
        TALLY.due("the TIME stays", "sets(99999)", x.sets(99999), 2);
        TALLY.due("the TIME stays", "sets(100000)", x.sets(100000), 1);
        Tally.tell(x, "$");
        TALLY.due("a FAULT (all stays)", "sets(100000)", x.sets(100000), 1);
    }
}
