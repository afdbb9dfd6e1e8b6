/** Each promise of the document by itself: ordinary inputs, edges, wrong inputs. Answers are worked out by hand. */
public final class PromiseTest {
    /** Two tune notes, a bass and three of filling: beats 0 to 3. */
    private static final String SMALL = "beats 4;part vio tune;part bas bass;part mid;"
            + "note a of vio at 0 key 50 long 2 loud 6;note b of vio at 2 key 52 long 2;"
            + "note c of bas at 0 key 20 long 4 loud 4;note d of mid at 0 key 32 long 2 loud 3;"
            + "note e of mid at 0 key 44 long 1;note f of mid at 1 key 38 long 2 loud 2;"
            + "span 12;fingers 2;leap 15;ear 2;";
    private static final int ALL_BEATS = 4095;

    private static final Tally TALLY = new Tally("PromiseTest");

    private static void due(int promise, String call, long got, long want) {
        TALLY.due("promise " + promise, call, got, want);
    }

    private static void due(int promise, String call, boolean got, boolean want) {
        TALLY.due("promise " + promise, call, got, want);
    }

    private static int tell(NinetyPlayers x, String text) {
        return Tally.tell(x, text);
    }

    private static NinetyPlayers of(String text) {
        return Tally.of(text);
    }

    private static NinetyPlayers notes(String head, String... notes) {
        return Tally.notes(head, notes);
    }

    private static void faulty(String text, int kind, int place) {
        TALLY.text("promises 4 and 5", text, kind, place);
    }

    public static void main(String[] args) {
        newObject();
        tape();
        faultsOfTokens();
        faultsOfLines();
        faultsOfNumbers();
        faultsOfFormulas();
        scoreMakesAllNew();
        noteAndPart();
        missed();
        heldAndSounds();
        clashes();
        acts();
        undoAndRedo();
        lossAndVersion();
        forbidsAndGiveway();
        letin();
        pedals();
        spreadLeapsBlur();
        openLostGaps();
        easierThickestBusiestLaw();
        dearestCouldLies();
        hearing();
        setsSureAsk();
        images();
        about();
        TALLY.end();
    }

    private static void newObject() {
        NinetyPlayers x = new NinetyPlayers();
        int[] want = {0, 0, 12, 12, 5, 20, 2, 0, 0, 0, 0, 0, 0, 0, 0, 0};
        for (int what = 0; what < want.length; what++) {
            due(1, "about(" + what + ")", x.about(what), want[what]);
        }
        due(1, "gaps()", x.gaps(), ALL_BEATS);
        due(1, "held(11, 1)", x.held(11, 1), 0);
        due(1, "held(12, 1)", x.held(12, 1), -1);
        due(1, "pedals(0)", x.pedals(0), 0);
        due(1, "NONE", NinetyPlayers.NONE, -1);
    }

    private static void tape() {
        NinetyPlayers x = new NinetyPlayers();
        for (int i = 1; i <= 80; i++) {
            due(2, "feed", x.feed(0x20202020, 0x0a0a0a0a, 0x20202020, 0x20202020, 0x20202020), 20 * i);
        }
        due(2, "feed beyond 1600", x.feed(0, 0, 0, 0, 0), -1);
        due(2, "bytes", x.about(12), 1600);
        due(3, "end(1601)", x.end(1601), -1);
        due(3, "end(-1)", x.end(-1), -1);
        due(3, "end(1600)", x.end(1600), 1600);
        due(3, "end(1581)", x.end(1581), 1581);
        due(2, "feed beyond 1600", x.feed(0, 0, 0, 0, 0), -1);
        due(3, "end(1580)", x.end(1580), 1580);
        due(2, "feed to 1600", x.feed(0x20202020, 0x20202020, 0x20202020, 0x20202020, 0x65617220), 1600);
        due(4, "score", x.score(), -1);
        due(5, "fault at the text's end", x.fault(0), 2);
        due(5, "its place", x.fault(1), 1600);
        due(4, "the tape is empty then", x.about(12), 0);
        due(3, "end(1)", x.end(1), -1);
        due(3, "end(0)", x.end(0), 0);
        due(4, "an empty text", x.score(), 0);
        due(5, "no fault", x.fault(0), 0);
        due(5, "no place", x.fault(1), -1);
        due(5, "another what", x.fault(-1), -1);
        due(5, "another what", x.fault(2), -1);
        // "ear 7;" with the bytes' order told by the highest first
        x.feed(0x65617220, 0x373b0000, 0, 0, 0);
        x.end(6);
        due(4, "score", x.score(), 0);
        due(2, "ear", x.about(6), 7);
        x.feed(0x80000000, 0, 0, 0, 0);
        x.end(1);
        due(4, "a byte above 127", x.score(), -1);
        due(5, "a byte above 127", x.fault(0), 1);
    }

    private static void faultsOfTokens() {
        faulty("", 0, -1);
        faulty(" \n ", 0, -1);
        faulty("ear 1;$", 1, 6);
        faulty("ear\t1;", 1, 3);
        faulty("ear\r1;", 1, 3);
        faulty("Ear 1;", 1, 0);
        faulty("part abcdefgh;", 0, -1);
        faulty("part abcdefghi;", 1, 5);
        faulty("ear 00001;", 1, 4);
        faulty("ear 0001;", 0, -1);
        faulty("ear 1a;", 1, 4);
        faulty("ear 1A;", 1, 5);
        faulty("ear1;", 0, -1);
        faulty("12a", 1, 0);
        faulty("missed 1<=2;", 2, 9);
        faulty("missed 1or 2;", 1, 7);
        faulty("missed 1 or 2;", 0, -1);
        faulty("part p;note a of p at 0key 0 long 1;", 1, 22);
        faulty("part p;note a of p at0 key0 long1 loud9;", 0, -1);
        faulty("part beatsx;", 0, -1);
        faulty("part\np\ntune\n;", 0, -1);
    }

    private static void faultsOfLines() {
        faulty("piano", 2, 0);
        faulty(";", 2, 0);
        faulty("12", 2, 0);
        faulty("tune p;", 2, 0);
        faulty("part p", 2, 6);
        faulty("part p  ", 2, 8);
        faulty("part ", 2, 5);
        faulty("part 1;", 2, 5);
        faulty("part p tune bass;", 2, 12);
        faulty("part p q;", 2, 7);
        for (String own : new String[] {"beats", "part", "tune", "bass", "note", "of", "at", "key", "long", "loud", "missed",
            "span", "fingers", "leap", "ear", "or", "and", "not", "role", "doubled", "beat"}) {
            faulty("part " + own + ";", 2, 5);
        }
        faulty("part e;part both;part one;part sum;", 0, -1);
        faulty("part p;part q;part p;", 3, 19);
        faulty("part a;part b;part c;part d;", 0, -1);
        faulty("part a;part b;part c;part d;part a", 2, 28);
        faulty("part a;part b;part c;part d;part $", 2, 28);
        faulty("beats 4;beats 4;", 2, 8);
        faulty("ear 1;beats 4;", 2, 6);
        faulty("beats 4;ear 1;", 0, -1);
        for (String once : new String[] {"missed 1;", "span 1;", "fingers 1;", "leap 1;", "ear 1;"}) {
            faulty(once, 0, -1);
            faulty(once + once, 2, once.length());
        }
        faulty("note a of p", 5, 10);
        faulty("note a of of", 2, 10);
        faulty("note a of 1", 2, 10);
        faulty("note p", 2, 6);
        faulty("part p;note p of p at 0 key 0 long 1;", 0, -1);
        faulty("part p;note a of p at 0 key 0 long 1;note a of p", 3, 42);
        faulty("part p;note a of p at 0 key 0 long 1 loud;", 2, 41);
        faulty("part p;note a of p at 0 key 0 loud 1;", 2, 30);
        faulty("part p;note a of q at 0 key 0 long 1;part q;", 5, 17);
        faulty("part p;note a p at 0 key 0 long 1;", 2, 14);
        faulty("part p;note a of p 0 key 0 long 1;", 2, 19);
        faulty("part p;note a of p at 0 0 long 1;", 2, 24);
        faulty("part p;note a of p at 0 key 0 1;", 2, 30);
        faulty("part p;note a of p at 0 key 0 long 1 2;", 2, 37);
        faulty("part zip;note zap of zip at 0 key 0 long 1;note za of zip at 0 key 0 long 1;", 0, -1);
        String[] ten = {"0 0 1", "0 0 1", "0 0 1", "0 0 1", "0 0 1", "0 0 1", "0 0 1", "0 0 1", "0 0 1", "0 0 1"};
        String full = Tally.lines("part p;", ten);
        faulty(full, 0, -1);
        faulty(full + "note z", 2, full.length());
        faulty(full + "note $", 2, full.length());
    }

    private static void faultsOfNumbers() {
        faulty("beats 0;", 4, 6);
        faulty("beats 1;", 0, -1);
        faulty("beats 12;", 0, -1);
        faulty("beats 13;", 4, 6);
        faulty("beats p;", 2, 6);
        faulty("span 0;", 0, -1);
        faulty("span 87;", 0, -1);
        faulty("span 88;", 4, 5);
        faulty("fingers 0;", 4, 8);
        faulty("fingers 1;", 0, -1);
        faulty("fingers 5;", 0, -1);
        faulty("fingers 6;", 4, 8);
        faulty("leap 87;", 0, -1);
        faulty("leap 9999;", 4, 5);
        faulty("ear 0;", 0, -1);
        faulty("ear 9;", 0, -1);
        faulty("ear 10;", 4, 4);
        String head = "beats 3;part p;note a of p at ";
        faulty(head + "2 key 87 long 12 loud 9;", 0, -1);
        faulty(head + "0 key 0 long 1 loud 1;", 0, -1);
        faulty(head + "3", 4, 30);
        faulty(head + "2 key 88", 4, 36);
        faulty(head + "2 key 8 long 0", 4, 43);
        faulty(head + "2 key 8 long 13", 4, 43);
        faulty(head + "2 key 8 long 1 loud 0", 4, 50);
        faulty(head + "2 key 8 long 1 loud 10", 4, 50);
        faulty("part p;note a of p at 11 key 1 long 1;", 0, -1);
        faulty("part p;note a of p at 12 key 1 long 1;", 4, 22);
    }

    private static void faultsOfFormulas() {
        faulty("missed;", 2, 6);
        faulty("missed ();", 2, 8);
        faulty("missed (1;", 2, 9);
        faulty("missed 1);", 2, 8);
        faulty("missed tune;", 2, 7);
        faulty("missed p;", 2, 7);
        faulty("missed -1;", 2, 7);
        faulty("missed 1+;", 2, 9);
        faulty("missed 1 not 2;", 2, 9);
        faulty("missed 1+not 2;", 2, 9);
        faulty("missed 1<2=3;", 2, 10);
        faulty("missed (1<2)=3;", 0, -1);
        faulty("missed 9999;", 0, -1);
        faulty("missed (((((((1)))))));", 0, -1);
        faulty("missed ((((((((1))))))));", 2, 14);
        faulty("missed not not not not not not not 1;", 0, -1);
        faulty("missed not not not not not not not not 1;", 2, 35);
        faulty("missed not not not not not not (1);", 0, -1);
        faulty("missed not not not not not not not (1);", 2, 35);
        faulty("missed not not not not not not (not 1);", 2, 32);
        faulty("missed ((((((not not 1))))));", 2, 17);
        faulty("missed not 1 and not 1 and not 1 and not 1 and not 1 and not 1 and not 1 and not 1;", 0, -1);
        faulty("missed " + "1+".repeat(29) + "1;", 0, -1);
        faulty("missed " + "1+".repeat(30) + "1;", 2, 67);
        faulty("missed " + "1+".repeat(28) + "(1);", 0, -1);
        faulty("missed " + "1+".repeat(29) + "(1);", 2, 66);
        faulty("missed " + "1+".repeat(28) + "(1+1);", 2, 66);
        faulty("missed " + "1+".repeat(30) + "$", 1, 67);
    }

    private static void scoreMakesAllNew() {
        NinetyPlayers x = of(SMALL);
        due(4, "notes", x.about(0), 6);
        x.give(0, 1);
        x.shift(0, 1);
        x.pedal(2);
        x.undo();
        x.heard(0, 50, true);
        x.later(7);
        x.version(0);
        x.image(1);
        due(4, "a fault", tell(x, "ear 1;ear 2;"), -1);
        int[] stays = {6, 3, 4, 12, 2, 15, 2, 0, 2, 1, 1, 7, 0, 0, 6, 1};
        for (int what = 0; what < stays.length; what++) {
            due(4, "all stays: about(" + what + ")", x.about(what), stays[what]);
        }
        due(4, "the box stays", x.differ(1), 0);
        due(4, "the key stays", x.note(0, 2), 62);
        due(4, "score", tell(x, "part p;note q of p at 1 key 2 long 3;missed 1+1;"), 1);
        int[] anew = {1, 1, 12, 12, 5, 20, 2, 0, 0, 0, 0, 7, 0, 2, 0, 0};
        for (int what = 0; what < anew.length; what++) {
            due(4, "all is new: about(" + what + ")", x.about(what), anew[what]);
        }
        due(4, "boxes are empty", x.differ(1), -1);
        due(4, "nothing lies there", x.lies(0), -1);
        due(4, "as told", x.note(0, 2), 2);
        due(4, "left out", x.note(0, 5), 0);
        due(4, "no acts", x.undo(), false);
        due(4, "no acts", x.redo(), false);
        due(4, "score", tell(x, "part p;"), 0);
        due(4, "missed is not told any more", x.about(13), 0);
    }

    private static void noteAndPart() {
        NinetyPlayers x = of(SMALL);
        int[] c = {1, 0, 20, 4, 4, 0, 7, 24};
        for (int what = 0; what < c.length; what++) {
            due(6, "note(2, " + what + ")", x.note(2, what), c[what]);
        }
        due(6, "loud if not told", x.note(1, 4), 5);
        due(6, "another what", x.note(2, 8), -1);
        due(6, "another what", x.note(2, -1), -1);
        due(6, "none such", x.note(6, 0), -1);
        due(6, "none such", x.note(-1, 0), -1);
        x.shift(3, 1);
        due(6, "doubled whatever the octave", x.note(2, 7), 24);
        due(6, "doubled by one key, too", x.note(3, 7), 20);
        due(6, "key", x.note(3, 2), 44);
        due(7, "tune", x.part(0, 0), 2);
        due(7, "bass", x.part(1, 0), 1);
        due(7, "filling", x.part(2, 0), 0);
        due(7, "notes", x.part(2, 1), 56);
        due(7, "given", x.part(2, 2), 0);
        x.give(4, 2);
        x.give(0, 2);
        due(7, "given", x.part(2, 2), 16);
        due(7, "another what", x.part(2, 3), -1);
        due(7, "another what", x.part(2, -1), -1);
        due(7, "none such", x.part(3, 0), -1);
        due(7, "none such", x.part(-1, 0), -1);
    }

    private static int missedBy(String formula) {
        // role 2, key 40, long 3, loud 7, doubled 1, beat 2
        NinetyPlayers x = of("part p tune;note a of p at 2 key 40 long 3 loud 7;note b of p at 2 key 52 long 1;"
                + (formula.isEmpty() ? "" : "missed " + formula + ";"));
        return x.note(0, 6);
    }

    private static void missed() {
        Object[][] formulas = {
            {"", 16}, {"role", 2}, {"key", 40}, {"long", 3}, {"loud", 7}, {"doubled", 1}, {"beat", 2}, {"12", 12},
            {"1000", 999}, {"999", 999}, {"0-1", 0}, {"2+3*4", 14}, {"(2+3)*4", 20}, {"9-3-2", 4}, {"90/4/3", 7}, {"7%4*2", 6},
            {"0-(0-7)/2", 3}, {"0-(0-7)%4", 3}, {"5+7/0", 5}, {"5+7%0", 5}, {"5/(key-40)+2", 2}, {"3<4", 1}, {"4<4", 0},
            {"4>3", 1}, {"4>4", 0}, {"4=4", 1}, {"4=5", 0}, {"1+2=3", 1}, {"not 5", 0}, {"not 0", 1}, {"not not 5", 1},
            {"not 1<0", 1}, {"7 and 8", 1}, {"7 and 0", 0}, {"0 or 8", 1}, {"0 or 0", 0}, {"1 or 0 and 0", 1}, {"(1 or 0) and 0", 0},
            {"not 0 and 0", 0}, {"(9)", 9}, {"5*(role=2)+1", 6}, {"(9999*9999*22<0)*5", 5},
        };
        for (Object[] f : formulas) {
            due(6, "missed by " + f[0], missedBy((String) f[0]), (Integer) f[1]);
        }
        // 9999 * 9999 * 43 = 4299140043, wrapped 4172747
        due(6, "wrapping", missedBy("9999*9999*43/5000"), 834);
        // the least int, by minus one: Java's own wrapping
        String least = "4096*4096*128";
        due(6, "the least int by -1", missedBy("(" + least + "/(0-1)=" + least + ")*7"), 7);
        due(6, "its rest", missedBy("(" + least + "%(0-1)=0)*7"), 7);
        String nots = "not ".repeat(7);
        due(6, "as long as can be", missedBy((nots + "0 and ").repeat(29) + nots + "0"), 1);
        due(6, "as long as can be", missedBy((nots + "0 and ").repeat(29) + nots + "1"), 0);
        due(6, "as deep as can be", missedBy("1+(1+(1+(1+(1+(1+(1+(2+3<4 or 5)*9))))))"), 7 + 9);
        NinetyPlayers x = of("part p;note a of p at 0 key 10 long 2;missed key+long*100+loud*10;");
        x.shift(0, 1);
        x.last(0, 3);
        x.louder(0, 9);
        due(6, "by what is now", x.note(0, 6), 22 + 300 + 90);
    }

    private static void heldAndSounds() {
        NinetyPlayers x = notes("beats 6;part p;", "1 40 3", "2 50 12", "0 60 1");
        due(8, "left out", x.held(1, 1), 0);
        x.give(0, 1);
        x.give(1, 2);
        int[] left = {0, 1, 1, 1, 0, 0};
        int[] right = {0, 0, 2, 2, 2, 2};
        for (int b = 0; b < 6; b++) {
            due(8, "held(" + b + ", 1)", x.held(b, 1), left[b]);
            due(8, "held(" + b + ", 2)", x.held(b, 2), right[b]);
            due(9, "sounds(" + b + ")", x.sounds(b), left[b] | right[b]);
        }
        due(8, "hand 0", x.held(1, 0), -1);
        due(8, "hand 3", x.held(1, 3), -1);
        due(8, "beat 6", x.held(6, 1), -1);
        due(8, "beat -1", x.held(-1, 1), -1);
        due(9, "beat 6", x.sounds(6), -1);
        due(9, "beat -1", x.sounds(-1), -1);
        x.pedal(2);
        int[] leftPedal = {0, 1, 0, 0, 0, 0};
        int[] sounds = {0, 1, 3, 2, 2, 2};
        for (int b = 0; b < 6; b++) {
            due(8, "with pedal held(" + b + ", 1)", x.held(b, 1), leftPedal[b]);
            due(8, "pedal where it begins held(" + b + ", 2)", x.held(b, 2), right[b]);
            due(9, "with pedal sounds(" + b + ")", x.sounds(b), sounds[b]);
        }
        x.pedal(3);
        x.pedal(5);
        x.give(2, 2);
        int[] all = {4, 1, 3, 3, 0, 0};
        for (int b = 0; b < 6; b++) {
            due(9, "held on by pedals sounds(" + b + ")", x.sounds(b), all[b]);
        }
        due(8, "no more from the first pedal", x.held(4, 2), 0);
    }

    private static void clashes() {
        NinetyPlayers x = notes("beats 2;part p;fingers 1;span 5;leap 5;", "0 40 1", "0 45 1", "0 46 1", "1 46 1", "1 45 1", "0 40 2");
        due(10, "none", x.clash(0), 0);
        x.give(0, 1);
        x.give(1, 1);
        due(10, "fingers", x.clash(0), 1);
        x.give(1, 0);
        x.give(2, 1);
        due(10, "fingers and span", x.clash(0), 3);
        x.give(0, 0);
        due(10, "one alone", x.clash(0), 0);
        x.give(0, 2);
        due(10, "crossed", x.clash(0), 4);
        x.give(0, 1);
        x.give(2, 2);
        due(10, "side by side", x.clash(0), 0);
        x.give(3, 1);
        due(10, "leap", x.clash(1), 16);
        due(10, "no beat ahead", x.clash(0), 0);
        x.give(3, 0);
        x.give(4, 1);
        due(10, "no leap too far", x.clash(1), 0);
        x.give(5, 2);
        due(10, "one key, crossed, and two in the right one", x.clash(0), 1 | 2 | 4 | 8);
        due(10, "crossed", x.clash(1), 4);
        due(18, "clashes()", x.clashes(), 3);
        x.give(5, 0);
        due(18, "clashes()", x.clashes(), 0);
        due(10, "beat 2", x.clash(2), -1);
        due(10, "beat -1", x.clash(-1), -1);
        NinetyPlayers y = notes("beats 1;part p;span 0;", "0 40 1", "0 40 1");
        y.give(0, 1);
        y.give(1, 1);
        due(10, "one key in one hand", y.clash(0), 8);
        y.give(1, 2);
        due(10, "one key in both", y.clash(0), 12);
        due(18, "clashes()", y.clashes(), 1);
        NinetyPlayers z = notes("beats 3;part p;leap 5;", "0 40 1", "2 80 1");
        z.give(0, 1);
        z.give(1, 1);
        due(18, "a leap over a rest", z.clashes(), 0);
    }

    private static void acts() {
        NinetyPlayers x = notes("beats 3;part p;span 3;", "0 40 2 4", "1 44 2");
        due(11, "give", x.give(0, 1), 0);
        due(11, "give, clashing", x.give(1, 1), 2);
        due(11, "it is so", x.give(1, 1), -1);
        due(11, "hand 3", x.give(1, 3), -1);
        due(11, "hand -1", x.give(1, -1), -1);
        due(11, "note 2", x.give(2, 1), -1);
        due(11, "note -1", x.give(-1, 1), -1);
        due(11, "left out", x.give(0, 0), 0);
        due(11, "left out already", x.give(0, 0), -1);
        due(11, "acts", x.about(8), 3);
        due(12, "up", x.shift(0, 3), 76);
        due(12, "down", x.shift(0, -6), 4);
        due(12, "below 0", x.shift(0, -1), -1);
        due(12, "to 88", x.shift(0, 7), -1);
        due(12, "0", x.shift(0, 0), -1);
        due(12, "8", x.shift(0, 8), -1);
        due(12, "-8", x.shift(0, -8), -1);
        due(12, "note 2", x.shift(2, 1), -1);
        due(12, "acts", x.about(8), 5);
        NinetyPlayers y = notes("part p;", "0 1 1");
        due(12, "seven up", y.shift(0, 7), 85);
        due(12, "eight down", y.shift(0, -8), -1);
        due(12, "seven down", y.shift(0, -7), 1);
        due(12, "so many that twelves wrap around to 8", y.shift(0, 357913942), -1);
        due(13, "louder", x.louder(0, 9), 4);
        due(13, "it is so", x.louder(0, 9), -1);
        due(13, "10", x.louder(0, 10), -1);
        due(13, "0", x.louder(0, 0), -1);
        due(13, "note 2", x.louder(2, 1), -1);
        due(13, "loud", x.note(0, 4), 9);
        due(13, "to 1", x.louder(0, 1), 9);
        due(13, "acts", x.about(8), 7);
        due(14, "last", x.last(0, 12), 2);
        due(14, "it is so", x.last(0, 12), -1);
        due(14, "13", x.last(0, 13), -1);
        due(14, "0", x.last(0, 0), -1);
        due(14, "note -1", x.last(-1, 1), -1);
        due(14, "long", x.note(0, 3), 12);
        due(14, "acts", x.about(8), 8);
        due(15, "comes", x.pedal(2), 4);
        due(15, "comes", x.pedal(0), 5);
        due(15, "goes", x.pedal(2), 1);
        due(15, "beat 3", x.pedal(3), -1);
        due(15, "beat -1", x.pedal(-1), -1);
        due(15, "acts", x.about(8), 11);
    }

    private static void undoAndRedo() {
        NinetyPlayers x = notes("beats 3;part p;", "0 40 2 4", "1 44 2");
        due(16, "none", x.undo(), false);
        due(17, "none", x.redo(), false);
        x.give(0, 2);
        x.shift(0, 1);
        x.louder(0, 8);
        x.last(0, 1);
        x.pedal(1);
        for (int i = 0; i < 5; i++) {
            due(16, "undo", x.undo(), true);
        }
        due(16, "none left", x.undo(), false);
        int[] asTold = {0, 0, 40, 2, 4, 0};
        for (int what = 0; what < 6; what++) {
            due(16, "note(0, " + what + ")", x.note(0, what), asTold[what]);
        }
        due(16, "pedal", x.about(7), 0);
        due(17, "to redo", x.about(9), 5);
        for (int i = 0; i < 5; i++) {
            due(17, "redo", x.redo(), true);
        }
        due(17, "none left", x.redo(), false);
        int[] asDone = {0, 0, 52, 1, 8, 2};
        for (int what = 0; what < 6; what++) {
            due(17, "note(0, " + what + ")", x.note(0, what), asDone[what]);
        }
        due(17, "pedal", x.about(7), 2);
        x.undo();
        x.undo();
        due(17, "what does nothing", x.give(0, 2), -1);
        due(17, "what does nothing leaves redo", x.about(9), 2);
        x.give(1, 1);
        due(17, "till another act", x.redo(), false);
        due(16, "acts", x.about(8), 4);
        for (int i = 0; i < 41; i++) {
            x.pedal(i % 3);
        }
        due(16, "40 are kept", x.about(8), 40);
        for (int i = 0; i < 40; i++) {
            due(16, "undo", x.undo(), true);
        }
        due(16, "the oldest are gone", x.undo(), false);
        due(16, "the first pedal stays", x.about(7), 1);
        due(17, "40 to redo", x.about(9), 40);
        x.redo();
        due(17, "redo the oldest first", x.about(7), 3);
        NinetyPlayers y = notes("beats 3;part p;", "0 40 2 1", "1 44 2 1", "1 48 2 1");
        for (int i = 0; i < 44; i++) {
            y.louder(i % 3, i / 3 % 8 + 2);
        }
        for (int i = 43; i >= 4; i--) {
            due(16, "undo", y.undo(), true);
            due(16, "the note of the act", y.note(i % 3, 4), i < 3 ? 1 : (i / 3 - 1) % 8 + 2);
        }
        due(16, "the oldest are gone", y.undo(), false);
        for (int i = 4; i < 44; i++) {
            due(17, "redo", y.redo(), true);
            due(17, "the note of the act", y.note(i % 3, 4), i / 3 % 8 + 2);
        }
    }

    private static void lossAndVersion() {
        NinetyPlayers x = of(SMALL);
        due(19, "loss()", x.loss(), 16 + 15 + 7 + 1 + 3 + 2);
        x.give(0, 2);
        due(19, "loss()", x.loss(), 28);
        due(20, "version(0)", x.version(0), 2);
        due(20, "version(1)", x.version(1), 5);
        int[] hands = {2, 2, 1, 1, 2, 0};
        for (int n = 0; n < 6; n++) {
            due(20, "lies(" + n + ")", x.lies(n), hands[n]);
        }
        due(20, "nothing is done", x.about(15), 1);
        due(20, "another what", x.version(2), -1);
        due(20, "another what", x.version(-1), -1);
        due(21, "child(5, 87)", x.child(5, 87), 0);
        due(21, "numbers", x.about(14), 6);
        due(21, "child(1, 0)", x.child(1, 0), 6);
        NinetyPlayers hand = notes("beats 1;part p;fingers 1;span 0;", "0 40 1", "0 41 1", "0 42 1", "0 60 1");
        due(21, "one finger", hand.version(0), 10);
        due(21, "one finger", hand.child(1, 87), 10);
        due(21, "two fingers", hand.child(2, 87), 0);
        due(21, "two fingers, no further than one key", hand.child(2, 1), 5);
        due(21, "two fingers, not far enough", hand.child(2, 17), 5);
        due(21, "left, left, right, right", hand.child(2, 18) * 10000 + hand.lies(0) * 1000 + hand.lies(1) * 100
                + hand.lies(2) * 10 + hand.lies(3), 1122);
        for (int[] bad : new int[][] {{0, 5}, {6, 5}, {2, -1}, {2, 88}}) {
            x.child(1, 0);
            due(21, "child(" + bad[0] + ", " + bad[1] + ")", x.child(bad[0], bad[1]), -1);
            due(21, "nothing lies there", x.about(14), 0);
            due(21, "nothing lies there", x.lies(0), -1);
        }
        // the leap from 30 to 45 is too far unless 38 is held below it: the note told last mends it
        NinetyPlayers y = notes("beats 2;part p;fingers 2;leap 10;span 40;", "0 30 1", "1 45 1", "1 38 1");
        due(20, "a lower note mends a leap", y.version(0), 0);
        due(20, "left, and all in it", y.lies(0) * 100 + y.lies(1) * 10 + y.lies(2), 111);
        // with a pedal at 1 the first is not held there
        NinetyPlayers z = notes("beats 2;part p;", "0 40 2", "1 40 1");
        due(20, "one key twice", z.version(1), 1);
        due(20, "the first stays", z.lies(0) * 10 + z.lies(1), 10);
        z.pedal(1);
        due(20, "pedal as it is", z.version(1), 2);
        z.shift(1, 3);
        due(20, "keys as they are: the right one takes the leap", z.version(1), 2);
        due(20, "left, then right", z.lies(0) * 10 + z.lies(1), 12);
        NinetyPlayers w = notes("beats 1;part p;missed 0;", "0 40 1", "0 40 1");
        due(20, "of like ones the first", w.version(0), 0);
        due(20, "left, out", w.lies(0) * 10 + w.lies(1), 10);
    }

    private static void forbidsAndGiveway() {
        NinetyPlayers x = of(SMALL);
        x.give(0, 2);
        x.give(2, 1);
        x.give(3, 1);
        due(22, "fingers and span", x.forbids(4, 1), 3);
        due(22, "free", x.forbids(4, 2), 0);
        due(22, "leap in the right one", x.forbids(5, 2), 0);
        due(22, "given", x.forbids(3, 1), -1);
        due(22, "hand 0", x.forbids(4, 0), -1);
        due(22, "hand 3", x.forbids(4, 3), -1);
        due(22, "note 6", x.forbids(6, 1), -1);
        // a clash that a beat has already is not one more
        NinetyPlayers y = notes("beats 1;part p;fingers 1;span 50;", "0 40 1", "0 41 1", "0 60 1");
        y.give(0, 1);
        y.give(1, 1);
        due(22, "as it is already", y.forbids(2, 1), 0);
        due(37, "as it is already", y.could(1), 4);
        due(23, "how many", x.giveway(4, 1, 0), 1);
        due(23, "which", x.giveway(4, 1, 1), 4);
        due(23, "none needs to", x.giveway(4, 2, 0), 0);
        due(23, "none needs to", x.giveway(4, 2, 1), 0);
        due(23, "another what", x.giveway(4, 1, 2), -1);
        due(23, "another what", x.giveway(4, 1, -1), -1);
        due(23, "given", x.giveway(3, 1, 0), -1);
        due(23, "hand 0", x.giveway(4, 0, 0), -1);
        due(23, "note -1", x.giveway(-1, 1, 0), -1);
        // any one of three may give way: the least missed, then the least set
        NinetyPlayers z = notes("beats 1;part p;fingers 3;span 50;missed loud;", "0 40 1 5", "0 41 1 3", "0 42 1 3", "0 43 1 9");
        z.give(0, 1);
        z.give(1, 1);
        z.give(2, 1);
        due(23, "least missed, then least", z.giveway(3, 1, 1), 2);
        z.louder(2, 2);
        due(23, "least missed", z.giveway(3, 1, 1), 4);
        due(23, "the other hand's, too", z.giveway(3, 2, 1), 0);
        z.give(0, 2);
        z.shift(0, 1);
        due(23, "fewest first", z.giveway(3, 1, 1), 0);
        z.shift(3, 1);
        // 55 in the left one is not below 52 in the right one, which gives way, though it is missed most
        due(23, "the other hand's gives way", z.giveway(3, 1, 1), 1);
        due(23, "nothing is done", z.about(15), 3);
    }

    private static void letin() {
        NinetyPlayers x = notes("beats 1;part p;fingers 1;leap 87;", "0 40 1", "0 50 1", "0 45 1", "0 40 1");
        due(24, "none is needed, left", x.letin(2, 1), 1);
        due(24, "none is needed", x.letin(2, 0), 0);
        x.give(1, 2);
        x.give(0, 1);
        due(24, "both are full", x.letin(2, 0), -100);
        due(24, "both are full", x.letin(2, 1), -100);
        due(24, "given", x.letin(0, 0), -100);
        due(24, "another what", x.letin(2, 2), -100);
        due(24, "another what", x.letin(2, -1), -100);
        due(24, "note 4", x.letin(4, 0), -100);
        x.give(1, 0);
        due(24, "another what", x.letin(2, 2), -100);
        due(24, "another what", x.letin(2, -1), -100);
        due(24, "right of the left one", x.letin(2, 1), 2);
        due(24, "not shifted", x.letin(2, 0), 0);
        due(24, "the same key: up, by the right one", x.letin(3, 0), 1);
        due(24, "the same key: up, by the right one", x.letin(3, 1), 2);
        x.give(0, 2);
        due(24, "the same key: down, by the left one", x.letin(3, 0), -1);
        due(24, "the same key: down, by the left one", x.letin(3, 1), 1);
        due(24, "nothing is done", x.note(3, 2), 40);
        NinetyPlayers y = notes("beats 2;part p;fingers 1;leap 0;", "0 84 1", "1 0 1");
        y.give(0, 1);
        due(24, "by the right one as it is", y.letin(1, 0) * 10 + y.letin(1, 1), 2);
        NinetyPlayers z = notes("beats 2;part p;fingers 1;leap 0;", "0 84 2", "1 0 1", "0 87 2");
        z.give(0, 1);
        z.give(2, 2);
        due(24, "no hand has a finger", z.letin(1, 0), -100);
        NinetyPlayers far = notes("beats 2;part p;fingers 1;leap 0;", "0 84 1", "1 0 1", "0 87 2");
        far.give(0, 1);
        far.give(2, 2);
        due(24, "seven octaves", far.letin(1, 0), 7);
        due(24, "by the left one", far.letin(1, 1), 1);
    }

    private static void pedals() {
        NinetyPlayers x = notes("beats 4;part p;fingers 1;leap 87;", "0 40 4", "2 45 2");
        x.give(0, 1);
        due(25, "none are needed", x.pedals(0), 0);
        x.give(1, 1);
        due(25, "one", x.pedals(0), 1);
        due(25, "at 1: the least set", x.pedals(1), 2);
        x.pedal(3);
        due(25, "all anew", x.pedals(1), 2);
        due(25, "nothing is done", x.about(7), 8);
        due(25, "another what", x.pedals(2), -1);
        due(25, "another what", x.pedals(-1), -1);
        // held up to 1, the leap from 40 to 45 is too far: cut at 1, there is none
        NinetyPlayers y = notes("beats 4;part p;fingers 1;leap 0;", "0 40 4", "2 45 2");
        y.give(0, 1);
        y.give(1, 1);
        due(25, "cut ahead of a leap", y.pedals(1), 2);
        NinetyPlayers z = notes("beats 6;part p;fingers 1;leap 87;", "0 40 6", "2 45 4", "4 50 2");
        z.give(0, 1);
        z.give(1, 1);
        z.give(2, 1);
        due(25, "two", z.pedals(0), 2);
        due(25, "the least set of two", z.pedals(1), 2 | 8);
        NinetyPlayers w = notes("beats 2;part p;fingers 1;", "0 40 1", "0 41 1");
        w.give(0, 1);
        w.give(1, 1);
        due(25, "by none", w.pedals(0), -1);
        due(25, "by none", w.pedals(1), -1);
    }

    private static void spreadLeapsBlur() {
        NinetyPlayers x = notes("beats 4;part p;", "0 40 2", "0 47 1", "1 60 1", "3 10 1", "2 42 2");
        due(26, "none", x.spread(1), 0);
        due(27, "none", x.leaps(1), 0);
        for (int n = 0; n < 4; n++) {
            x.give(n, 1);
        }
        due(26, "left", x.spread(1), 20);
        due(26, "right", x.spread(2), 0);
        due(26, "hand 0", x.spread(0), -1);
        due(26, "hand 3", x.spread(3), -1);
        due(27, "not over a rest", x.leaps(1), 0);
        x.give(4, 1);
        due(27, "down", x.leaps(1), 32);
        x.give(3, 0);
        due(27, "up", x.leaps(1), 2);
        due(27, "right", x.leaps(2), 0);
        due(27, "hand 0", x.leaps(0), -1);
        due(27, "hand 3", x.leaps(3), -1);
        NinetyPlayers y = notes("beats 4;part p;", "0 40 1", "0 41 2", "1 42 1", "2 43 1", "1 40 1");
        for (int n = 0; n < 5; n++) {
            y.give(n, 1);
        }
        due(28, "all are held", y.blur(), 0);
        y.pedal(1);
        // at 1: 40, 41 ring on, 42 and 40 are held: 40-41, 40-42, 41-42, 41-40
        due(28, "at one beat", y.blur(), 4);
        y.pedal(2);
        // at 2: these ring on, 43 is held: the four, the held 42-40 now, 43-41, 43-42
        due(28, "at each beat together", y.blur(), 4 + 7);
    }

    private static void openLostGaps() {
        NinetyPlayers x = of("beats 4;part p tune;part q bass;ear 2;note a of p at 0 key 40 long 2 loud 3;"
                + "note b of q at 1 key 20 long 1 loud 5;note c of q at 0 key 10 long 1 loud 6;note d of p at 2 key 50 long 1;");
        due(29, "none sounds", x.open(0), 0);
        x.give(0, 2);
        x.give(1, 1);
        due(29, "alone", x.open(0), 1);
        due(29, "just as loud as ear tells", x.open(1), 3);
        due(30, "none", x.lost(), 0);
        x.give(2, 1);
        due(29, "not open", x.open(0), 4);
        due(30, "the tune's is lost", x.lost(), 1);
        due(31, "gaps", x.gaps(), 4 | 8);
        x.louder(1, 6);
        due(29, "one louder", x.open(1), 2);
        x.give(2, 0);
        due(30, "only where it begins", x.lost(), 0);
        x.give(3, 2);
        due(31, "gaps", x.gaps(), 8);
        x.pedal(3);
        due(31, "pedals fill gaps", x.gaps(), 0);
        due(29, "beat 4", x.open(4), -1);
        due(29, "beat -1", x.open(-1), -1);
        x.give(2, 2);
        x.louder(2, 9);
        due(30, "no bass is lost", x.lost(), 1);
    }

    private static void easierThickestBusiestLaw() {
        NinetyPlayers x = notes("beats 4;part p;fingers 1;leap 5;", "1 40 2", "2 41 2", "3 50 1");
        due(32, "left out", x.easier(0), -1);
        due(33, "none", x.thickest(), 0);
        due(34, "none", x.busiest(1), 0);
        x.give(0, 1);
        x.give(1, 1);
        due(32, "one beat", x.easier(0), 1);
        due(32, "none such", x.easier(3), -1);
        due(32, "none such", x.easier(-1), -1);
        due(33, "most are held", x.thickest(), 2);
        due(34, "left", x.busiest(1), 2);
        due(34, "right", x.busiest(2), 0);
        x.give(2, 2);
        due(33, "the first of like ones", x.thickest(), 2);
        due(34, "right", x.busiest(2), 3);
        due(34, "hand 0", x.busiest(0), -1);
        due(34, "hand 3", x.busiest(3), -1);
        NinetyPlayers y = notes("beats 3;part p;leap 5;", "0 40 1", "1 50 1", "1 41 1", "2 50 1", "2 45 1");
        for (int n = 0; n < 5; n++) {
            y.give(n, 1);
        }
        due(32, "not easier", y.easier(0), 0);
        due(32, "harder", y.easier(2), -1);
        NinetyPlayers z = notes("beats 3;part p;", "0 40 1", "0 45 1", "1 40 1", "1 50 1");
        for (int n = 0; n < 4; n++) {
            z.give(n, 1);
        }
        int[][] laws = {{0, 2}, {4, 2}, {5, 1}, {9, 1}, {10, 0}, {87, 0}, {88, -1}, {-1, -1}};
        for (int[] law : laws) {
            due(35, "law(" + law[0] + ")", z.law(law[0]), law[1]);
        }
        due(35, "nothing is done", z.about(3), 12);
    }

    private static void dearestCouldLies() {
        NinetyPlayers x = of(SMALL);
        due(36, "dearest()", x.dearest(), 0);
        x.give(0, 2);
        due(36, "dearest()", x.dearest(), 1);
        x.louder(2, 9);
        x.shift(3, 1);
        due(36, "dearest()", x.dearest(), 1);
        NinetyPlayers y = notes("part p;missed 0;", "0 40 1", "0 41 1");
        due(36, "of like ones the first", y.dearest(), 0);
        y.give(0, 1);
        due(36, "missed 0", y.dearest(), 1);
        y.give(1, 1);
        due(36, "none such", y.dearest(), -1);
        due(37, "none is left out", y.could(1), 0);
        NinetyPlayers z = notes("beats 1;part p;fingers 2;span 10;", "0 40 1", "0 45 1", "0 51 1", "0 30 1", "0 40 1");
        due(37, "all", z.could(1), 31);
        due(37, "all", z.could(2), 31);
        z.give(0, 1);
        due(37, "left", z.could(1), 2 | 8);
        due(37, "right", z.could(2), 2 | 4);
        due(37, "hand 0", z.could(0), -1);
        due(37, "hand 3", z.could(3), -1);
        due(38, "nothing", z.lies(0), -1);
        z.version(0);
        due(38, "-1", z.lies(-1), -1);
        due(38, "5", z.lies(5), -1);
        due(38, "4", z.lies(4) >= 0, true);
        int first = z.lies(0);
        z.give(1, 2);
        z.loss();
        z.undo();
        due(38, "it stays there", z.lies(0), first);
    }

    private static void hearing() {
        NinetyPlayers x = notes("beats 3;part p;", "0 40 2", "1 44 2");
        due(39, "the first", x.heard(0, 40, true), 0);
        due(39, "the second", x.heard(2, 87, false), 1);
        due(39, "beat 3", x.heard(3, 40, true), -1);
        due(39, "beat -1", x.heard(-1, 40, true), -1);
        due(39, "key 88", x.heard(0, 88, true), -1);
        due(39, "key -1", x.heard(0, -1, true), -1);
        for (int i = 2; i < 30; i++) {
            due(39, "one more", x.heard(0, 0, false), i);
        }
        due(39, "there are 30", x.heard(0, 0, false), -1);
        due(40, "untell", x.untell(3), true);
        due(40, "so already", x.untell(3), false);
        due(40, "none such", x.untell(30), false);
        due(40, "none such", x.untell(-1), false);
        due(39, "there are 30 still", x.heard(0, 0, false), -1);
        due(41, "0", x.later(0), 0);
        due(41, "1000", x.later(1000), 1000);
        due(41, "1001", x.later(1001), -1);
        due(41, "-1", x.later(-1), -1);
        for (int i = 2; i <= 99; i++) {
            x.later(1000);
        }
        due(41, "999", x.later(999), 99999);
        due(41, "above 100,000", x.later(2), -1);
        due(41, "to 100,000", x.later(1), 100000);
        due(41, "above 100,000", x.later(1), -1);
    }

    private static void setsSureAsk() {
        NinetyPlayers x = notes("beats 3;part p;", "0 40 2", "1 40 2", "1 44 1");
        due(42, "all", x.sets(0), 8);
        x.heard(1, 40, true);
        due(42, "one of two at least", x.sets(0), 6);
        due(42, "not known yet", x.sets(-1), 8);
        due(43, "not the same", x.sure(0, 0), -2);
        due(44, "the first of like ones: 4 with it", x.ask(0, 0), 2);
        due(44, "left at the most", x.ask(1, 0), 3);
        due(44, "another what", x.ask(2, 0), -1);
        due(44, "another what", x.ask(-1, 0), -1);
        x.later(5);
        x.heard(2, 40, false);
        due(43, "not played", x.sure(1, 5), 0);
        due(43, "so it was the other", x.sure(0, 5), 1);
        due(43, "not known at 4", x.sure(1, 4), -2);
        due(42, "sets at 5", x.sets(5), 2);
        due(44, "ask", x.ask(0, 5), 2);
        due(44, "left at the most", x.ask(1, 5), 1);
        x.later(1);
        x.untell(0);
        due(42, "untold at 6", x.sets(6), 4);
        due(42, "as known at 5", x.sets(5), 2);
        due(42, "as known later", x.sets(100), 4);
        x.heard(1, 44, true);
        x.heard(1, 44, false);
        due(42, "no sets", x.sets(6), 0);
        due(43, "no sets", x.sure(0, 6), -1);
        due(44, "no sets", x.ask(0, 6), -1);
        due(44, "no sets", x.ask(1, 6), -1);
        x.untell(2);
        due(42, "told and untold at once counts never", x.sets(6), 2);
        due(43, "none such", x.sure(3, 6), -1);
        due(43, "none such", x.sure(-1, 6), -1);
        // of the score as it was told: what is done with notes does not matter
        NinetyPlayers y = notes("beats 3;part p;", "0 40 2");
        y.give(0, 1);
        y.shift(0, 1);
        y.last(0, 3);
        y.pedal(1);
        y.heard(1, 40, true);
        due(42, "as told", y.sets(0), 1);
        y.heard(2, 40, true);
        due(42, "no longer than told", y.sets(0), 0);
        NinetyPlayers z = new NinetyPlayers();
        due(42, "the empty set", z.sets(0), 1);
        due(44, "no notes", z.ask(0, 0), -1);
        due(44, "no notes", z.ask(1, 0), -1);
        z.heard(0, 0, false);
        due(42, "the empty set", z.sets(0), 1);
        NinetyPlayers w = notes("part p;", "0 40 1");
        w.heard(0, 40, true);
        due(44, "one set: the first note", w.ask(0, 0), 0);
        due(44, "one set", w.ask(1, 0), 1);
    }

    private static void images() {
        NinetyPlayers x = notes("beats 3;part p;", "0 40 2", "1 44 2", "0 50 1", "0 60 1");
        due(46, "nothing was kept", x.back(0), -1);
        due(47, "nothing was kept", x.differ(0), -1);
        x.give(0, 1);
        x.pedal(1);
        due(45, "image(0)", x.image(0), 1);
        due(45, "image(3)", x.image(3), -1);
        due(45, "image(-1)", x.image(-1), -1);
        due(45, "acts stay", x.about(8), 2);
        x.give(0, 2);
        x.shift(1, 1);
        x.louder(2, 1);
        x.last(3, 3);
        due(47, "all four", x.differ(0), 15);
        x.shift(1, -1);
        due(47, "as it was", x.differ(0), 13);
        due(47, "differ(3)", x.differ(3), -1);
        due(47, "differ(-1)", x.differ(-1), -1);
        x.pedal(2);
        x.give(1, 1);
        due(45, "image(2)", x.image(2), 2);
        due(46, "back(1)", x.back(1), -1);
        due(46, "back(3)", x.back(3), -1);
        due(46, "back(-1)", x.back(-1), -1);
        due(46, "doing nothing", x.about(8), 9);
        x.undo();
        due(46, "back(0)", x.back(0), 1);
        due(46, "no acts", x.about(8), 0);
        due(46, "no acts to redo", x.about(9), 0);
        due(46, "pedal", x.about(7), 2);
        due(46, "hand", x.note(0, 5), 1);
        due(46, "loud", x.note(2, 4), 5);
        due(46, "long", x.note(3, 3), 1);
        due(47, "the same", x.differ(0), 0);
        due(47, "the other", x.differ(2), 15);
        due(46, "back(2)", x.back(2), 2);
        due(46, "pedal", x.about(7), 6);
        x.give(1, 2);
        due(46, "a box stays as it was kept", x.differ(2), 2);
        x.image(2);
        due(45, "kept anew", x.differ(2), 0);
    }

    private static void about() {
        NinetyPlayers x = of("beats 7;part p;part q;note a of p at 6 key 1 long 1;span 3;fingers 4;leap 5;ear 6;missed (1+2)*3;");
        x.give(0, 1);
        x.pedal(4);
        x.give(0, 2);
        x.undo();
        x.heard(0, 0, true);
        x.heard(0, 0, true);
        x.untell(0);
        x.later(9);
        x.feed(0, 0, 0, 0, 0);
        x.end(17);
        x.version(0);
        int[] want = {1, 2, 7, 3, 4, 5, 6, 16, 2, 1, 2, 9, 17, 4, 1, 1};
        for (int what = 0; what < want.length; what++) {
            due(48, "about(" + what + ")", x.about(what), want[what]);
        }
        due(48, "about(16)", x.about(16), -1);
        due(48, "about(-1)", x.about(-1), -1);
    }
}
