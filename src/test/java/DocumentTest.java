import java.io.IOException;
import java.util.Arrays;

/**
 * The document from its first sentence to its last promise, in its own words and order: at least one check of each.
 * If the document has words of which no check speaks, or a check speaks of words that it has not, the test fails.
 */
public final class DocumentTest {
    private static final Tally TALLY = new Tally("DocumentTest");
    private static final int OUT = 0;
    private static final int LEFT = 1;
    private static final int RIGHT = 2;
    private static final int NONE = -1;
    private static final String[] WORDS = {"beats", "part", "tune", "bass", "note", "of", "at", "key", "long", "loud", "missed", "span",
        "fingers", "leap", "ear", "or", "and", "not", "role", "doubled", "beat"};

    private static Document document;
    private static String sentence = "";
    private static int checksOfSentence = 1;

    public static void main(String[] args) throws IOException {
        document = Document.read();
        howLong();
        terms();
        whatIsNow();
        whatWouldBe();
        whatWasHeard();
        promises();
        says("");
        for (String words : document.unspoken()) {
            TALLY.same("each sentence has a test", "the document", words, "");
        }
        if (!document.isThere()) {
            System.out.println("DocumentTest: the document is not there, its words were not compared");
        }
        TALLY.end();
    }

    /** What follows is a check of these words of the document. */
    private static void says(String words) {
        TALLY.due(sentence, "it has a check", checksOfSentence > 0, true);
        TALLY.due(words, "the document has these words", words.isEmpty() || document.speakOf(words), true);
        sentence = words;
        checksOfSentence = 0;
    }

    private static void is(String call, long got, long due) {
        checksOfSentence++;
        TALLY.due(sentence, call, got, due);
    }

    private static void is(String call, boolean got, boolean due) {
        is(call, got ? 1 : 0, due ? 1 : 0);
    }

    private static void row(String call, int[] got, int... due) {
        checksOfSentence++;
        TALLY.same(sentence, call, Arrays.toString(got), Arrays.toString(due));
    }

    private static void fine(String text) {
        checksOfSentence++;
        TALLY.fine(sentence, text);
    }

    private static void faulty(String text, int fault, int place) {
        checksOfSentence++;
        TALLY.text(sentence, text, fault, place);
    }

    private static NinetyPlayers of(String text) {
        return Tally.of(text);
    }

    /** Notes of a part p, each as "beat key long [loud]". */
    private static NinetyPlayers notes(String head, String... notes) {
        return Tally.notes(head + "part p;", notes);
    }

    private static NinetyPlayers given(NinetyPlayers x, int... hands) {
        for (int note = 0; note < hands.length; note++) {
            x.give(note, hands[note]);
        }
        return x;
    }

    private static int[] held(NinetyPlayers x, int hand) {
        int[] row = new int[x.about(2)];
        Arrays.setAll(row, beat -> x.held(beat, hand));
        return row;
    }

    private static int[] sounds(NinetyPlayers x) {
        int[] row = new int[x.about(2)];
        Arrays.setAll(row, x::sounds);
        return row;
    }

    private static int[] clash(NinetyPlayers x) {
        int[] row = new int[x.about(2)];
        Arrays.setAll(row, x::clash);
        return row;
    }

    private static int[] lying(NinetyPlayers x) {
        int[] row = new int[x.about(14)];
        Arrays.setAll(row, x::lies);
        return row;
    }

    private static int[] all(NinetyPlayers x, int what) {
        int[] row = new int[x.about(0)];
        Arrays.setAll(row, note -> x.note(note, what));
        return row;
    }

    private static void howLong() {
        says("An object is used for at most 512 calls after it has been made");
        NinetyPlayers x = notes("beats 3;", "0 40 1", "1 41 1");
        for (int call = 0; call < 500; call++) {
            x.louder(0, call % 9 + 1);
        }
        is("about(8), late", x.about(8), 40);
        is("louder(0, 9), late", x.louder(0, 9), 5);
        says("what later calls answer is free.");
        for (int call = 0; call < 1000; call++) {
            x.pedal(call % 4);
        }
        is("note(0, 5), that does not throw", x.note(0, 5), x.note(0, 5));
    }

    // ---- Terms

    private static void terms() {
        textOfAScore();
        lines();
        formulas();
        tokens();
        howMany();
        faults();
    }

    private static void textOfAScore() {
        says("A SCORE is a text of at most 1,600 bytes");
        NinetyPlayers x = of("ear 1;" + " ".repeat(1594));
        is("ear of a text of 1,600 bytes", x.about(6), 1);
        Tally.put(x, " ".repeat(1600));
        is("feed() behind 1,600 bytes", x.feed(0, 0, 0, 0, 0), NONE);
        says("(empty at first)");
        is("about(0)", new NinetyPlayers().about(0), 0);
        is("about(1)", new NinetyPlayers().about(1), 0);
        says("score = {line}.");
        fine("");
        fine("ear 1;");
        fine("ear 1;span 2;part p;leap 3;");
        faulty("ear 1;span 2;4", 2, 13);
    }

    private static void lines() {
        says("line = beats N ;");
        is("beats", of("beats 7;").about(2), 7);
        faulty("beats;", 2, 5);
        faulty("beats 7", 2, 7);
        faulty("beats 7 7;", 2, 8);
        says("part NAME [tune | bass] ;");
        NinetyPlayers x = of("part a;part b tune;part c bass;");
        is("part(0, 0)", x.part(0, 0), 0);
        is("part(1, 0)", x.part(1, 0), 2);
        is("part(2, 0)", x.part(2, 0), 1);
        faulty("part ;", 2, 5);
        faulty("part a tune bass;", 2, 12);
        faulty("part a b;", 2, 7);
        says("note NAME of NAME at N key N long N [loud N] ;");
        x = of("part q;part p;note n of p at 3 key 40 long 2 loud 7;note m of q at 11 key 87 long 12;");
        row("note 0", new int[] {x.note(0, 0), x.note(0, 1), x.note(0, 2), x.note(0, 3), x.note(0, 4)}, 1, 3, 40, 2, 7);
        row("note 1", new int[] {x.note(1, 0), x.note(1, 1), x.note(1, 2), x.note(1, 3), x.note(1, 4)}, 0, 11, 87, 12, 5);
        faulty("part p;note of p at 3 key 40 long 2;", 2, 12);
        faulty("part p;note n p at 3 key 40 long 2;", 2, 14);
        faulty("part p;note n of at 3 key 40 long 2;", 2, 17);
        faulty("part p;note n of p 3 key 40 long 2;", 2, 19);
        faulty("part p;note n of p at key 40 long 2;", 2, 22);
        faulty("part p;note n of p at 3 40 long 2;", 2, 24);
        faulty("part p;note n of p at 3 key long 2;", 2, 28);
        faulty("part p;note n of p at 3 key 40 2;", 2, 31);
        faulty("part p;note n of p at 3 key 40 long;", 2, 35);
        faulty("part p;note n of p at 3 key 40 long 2 loud;", 2, 42);
        faulty("part p;note n of p at 3 key 40 long 2 7;", 2, 38);
        says("missed e ;");
        is("missed 6", of("missed 6;part p;note n of p at 0 key 0 long 1;").note(0, 6), 6);
        faulty("missed ;", 2, 7);
        faulty("missed 6", 2, 8);
        says("span N ;");
        is("span", of("span 3;").about(3), 3);
        faulty("span;", 2, 4);
        says("fingers N ;");
        is("fingers", of("fingers 3;").about(4), 3);
        faulty("fingers;", 2, 7);
        says("leap N ;");
        is("leap", of("leap 3;").about(5), 3);
        faulty("leap;", 2, 4);
        says("ear N ;.");
        is("ear", of("ear 3;").about(6), 3);
        faulty("ear;", 2, 3);
    }

    /** Role 2, key 40, long 3, loud 7, doubled 1, beat 2. */
    private static void comes(String formula, int due) {
        is("missed " + formula, of("part p tune;note a of p at 2 key 40 long 3 loud 7;note b of p at 2 key 52 long 1;missed "
                + formula + ";").note(0, 6), due);
    }

    private static void formulas() {
        says("e = both {or both}.");
        comes("0 or 0", 0);
        comes("0 or 3", 1);
        comes("0 or 0 or 2", 1);
        comes("1 or 1 and 0", 1);
        comes("0 and 1 or 1", 1);
        faulty("missed 0 or;", 2, 11);
        says("both = one {and one}.");
        comes("2 and 3", 1);
        comes("2 and 3 and 0", 0);
        comes("not 0 and not 0", 1);
        faulty("missed 0 and;", 2, 12);
        says("one = not one | sum [(< | > | =) sum].");
        comes("not 0", 1);
        comes("not not 7", 1);
        comes("not 1<2", 0);
        comes("not 0+5", 0);
        comes("3<4", 1);
        comes("4<3", 0);
        comes("3>4", 0);
        comes("4>3", 1);
        comes("4=3", 0);
        comes("1+3=2*2", 1);
        faulty("missed 1<2<3;", 2, 10);
        faulty("missed 1<not 2;", 2, 9);
        faulty("missed 1+not 2;", 2, 9);
        says("sum = term {(+ | -) term}.");
        comes("9-2+1", 8);
        comes("9-2-3", 4);
        comes("2+3*4", 14);
        faulty("missed -1;", 2, 7);
        says("term = unit {(* | / | %) unit}.");
        comes("7*2/4%2", 1);
        comes("100/5/2", 10);
        comes("7%4*5", 15);
        faulty("missed *1;", 2, 7);
        says("unit = N | role | key | long | loud | doubled | beat | ( e ).");
        comes("17", 17);
        comes("role", 2);
        comes("key", 40);
        comes("long", 3);
        comes("loud", 7);
        comes("doubled", 1);
        comes("beat", 2);
        comes("(1+2)*3", 9);
        comes("(1 or 0)+(not 0)", 2);
        faulty("missed ();", 2, 8);
        faulty("missed (1;", 2, 9);
        faulty("missed 1);", 2, 8);
        faulty("missed beats;", 2, 7);
        faulty("missed name;", 2, 7);
    }

    private static void tokens() {
        says("TOKENS: words (a .. z, 8 at most)");
        fine("part a;part z;part abcdefgh;part zyxwvuts;");
        faulty("part abcdefghi;", 1, 5);
        faulty("part aB;", 1, 6);
        faulty("part `;", 1, 5);
        faulty("part {;", 1, 5);
        says("N (1 to 4 digits)");
        comes("7", 7);
        comes("0042", 42);
        comes("9999-9998", 1);
        faulty("missed 10000;", 1, 7);
        faulty("missed 00000;", 1, 7);
        says("signs ; ( ) < > = + - * / %");
        for (char c = 0; c < 256; c++) {
            boolean blank = c == 32 || c == 10;
            boolean token = c >= 'a' && c <= 'z' || c >= '0' && c <= '9' || ";()<>=+-*/%".indexOf(c) >= 0;
            faulty(String.valueOf(c), blank ? 0 : token ? 2 : 1, 0);
        }
        says("blanks (32, 10) part them or not");
        is("ear1;", of("ear1;").about(6), 1);
        is("ear .. 1", of(" ear \n 1\n; ").about(6), 1);
        fine("part a tune;part b\nbass;");
        faulty("ear\t1;", 1, 3);
        faulty("ear\r1;", 1, 3);
        faulty("ear 0 1;", 2, 6);
        says("each is as long as can be");
        comes("12", 12);
        faulty("parta;", 2, 0);
        faulty("part atune bass tune;", 2, 16);
        says("no letter directly behind an N");
        faulty("missed 1or 1;", 1, 7);
        fine("missed 1 or 1;");
        faulty("part p;note n of p at 0key 0 long 1;", 1, 22);
        says("Words that stand for themselves here are no NAMES.");
        for (String word : WORDS) {
            faulty("part " + word + ";", 2, 5);
            faulty("part p;note " + word + " of p at 0 key 0 long 1;", 2, 12);
        }
        for (String word : new String[] {"e", "both", "one", "sum", "term", "unit", "line", "score", "n", "name", "notes", "pedal"}) {
            fine("part " + word + ";note " + word + " of " + word + " at 0 key 0 long 1;");
        }
    }

    private static void bounds(String head, String tail, int least, int most) {
        fine(head + least + tail);
        fine(head + most + tail);
        faulty(head + (most + 1) + tail, 4, head.length());
        if (least > 0) {
            faulty(head + (least - 1) + tail, 4, head.length());
        }
    }

    private static void howMany() {
        says("beats (1 .. 12; 12 if not told) once, ahead of all others");
        bounds("beats ", ";", 1, 12);
        is("beats of no text", of("").about(2), 12);
        faulty("beats 3;beats 3;", 2, 8);
        faulty("part a;beats 3;", 2, 7);
        says("at most 4 PARTS");
        is("parts", of("part a;part b;part c;part d;").about(1), 4);
        faulty("part a;part b;part c;part d;part e;", 2, 28);
        says("(ROLE 2 of a tune, 1 of a bass, else 0)");
        NinetyPlayers x = of("part b tune;part c bass;part a;");
        row("roles", new int[] {x.part(0, 0), x.part(1, 0), x.part(2, 0)}, 2, 1, 0);
        says("10 NOTES");
        String ten = Tally.lines("part p;", "0 0 1", "0 1 1", "0 2 1", "0 3 1", "0 4 1", "0 5 1", "0 6 1", "0 7 1", "0 8 1", "0 9 1");
        is("notes", of(ten).about(0), 10);
        faulty(ten + "note z of p at 0 key 0 long 1;", 2, ten.length());
        says("(of a PART told ahead");
        faulty("note n of p at 0 key 0 long 1;part p;", 5, 10);
        fine("part p;note n of p at 0 key 0 long 1;");
        says("begins at a BEAT 0 .. beats less 1");
        bounds("beats 5;part p;note n of p at ", " key 0 long 1;", 0, 4);
        bounds("part p;note n of p at ", " key 0 long 1;", 0, 11);
        says("key 0 .. 87");
        bounds("part p;note n of p at 0 key ", " long 1;", 0, 87);
        says("long 1 .. 12");
        bounds("part p;note n of p at 0 key 0 long ", ";", 1, 12);
        says("loud 1 .. 9, 5 if not told)");
        bounds("part p;note n of p at 0 key 0 long 1 loud ", ";", 1, 9);
        is("loud", of("part p;note n of p at 0 key 0 long 1;").note(0, 4), 5);
        says("numbered as told, each sort by itself");
        x = of("part b;note x of b at 0 key 9 long 1;part a tune;note c of a at 0 key 8 long 1;note a of b at 0 key 7 long 1;");
        row("keys", all(x, 2), 9, 8, 7);
        row("parts", all(x, 0), 0, 1, 0);
        is("part(1, 0)", x.part(1, 0), 2);
        says("missed, span (0 .. 87; 12), fingers (1 .. 5; 5), leap (0 .. 87; 20), ear (0 .. 9; 2) once each");
        bounds("span ", ";", 0, 87);
        bounds("fingers ", ";", 1, 5);
        bounds("leap ", ";", 0, 87);
        bounds("ear ", ";", 0, 9);
        x = of("");
        row("if not told", new int[] {x.about(3), x.about(4), x.about(5), x.about(6)}, 12, 5, 20, 2);
        faulty("missed 1;ear 1;missed 2;", 2, 15);
        faulty("span 1;ear 1;span 2;", 2, 13);
        faulty("fingers 1;ear 1;fingers 2;", 2, 16);
        faulty("leap 1;ear 1;leap 2;", 2, 13);
        faulty("ear 1;span 1;ear 2;", 2, 13);
        says("60 units in all, 30 in one e");
        is("units", of("missed 1" + "+1".repeat(29) + ";").about(13), 30);
        faulty("missed 1" + "+1".repeat(30) + ";", 2, 67);
        says("(a unit ( e ), or a one behind not, within 6 others at most).");
        fine("missed (((((((1)))))));");
        fine("missed not not not not not not not 1;");
        fine("missed (not (not (not (1))));");
        fine("missed " + "(((((((1)))))))" + "+(((((((1)))))))" + ";");
        faulty("missed ((((((((1))))))));", 2, 14);
        faulty("missed (not (not (not ((1)))));", 2, 23);
    }

    private static void faults() {
        says("FAULTS, the first by its place (bytes from 0");
        faulty("$", 1, 0);
        faulty(" \n$", 1, 2);
        faulty("ear 10;$", 4, 4);
        faulty("$ear 10;", 1, 0);
        faulty("part a;part a;note n of b", 3, 12);
        says("the end: the text's length)");
        faulty("ear", 2, 3);
        faulty("ear 1 \n", 2, 7);
        says("at one place the least");
        faulty("ear $;", 1, 4);
        faulty("ear 10000;", 1, 4);
        faulty("part abcdefghi", 1, 5);
        faulty("missed 1" + "+1".repeat(29) + "+$;", 1, 67);
        says("1 no TOKEN");
        faulty("ear 1;!", 1, 6);
        says("2 one that can't stand there");
        faulty("ear 1;;", 2, 6);
        faulty("ear tune;", 2, 4);
        faulty("name 1;", 2, 0);
        faulty("12;", 2, 0);
        says("(one of a sort too many");
        faulty("part a;part b;part c;part d; part a", 2, 29);
        says("a second time");
        faulty("span 1; span 99;", 2, 8);
        says("beats behind another line: at the line's first word");
        faulty("ear 1;beats 99;", 2, 6);
        says("a unit too many");
        faulty("missed 1" + "+1".repeat(29) + "+(1);", 2, 67);
        faulty("missed 1" + "+1".repeat(29) + "+ key;", 2, 68);
        says("what is within 7 others: at its first TOKEN, or the not)");
        faulty("missed ((((((( ((1)))))))));", 2, 15);
        faulty("missed (((((((not 1)))))));", 2, 14);
        faulty("missed not not not not not not not  not 1;", 2, 36);
        faulty("missed not not not not not not not (1);", 2, 35);
        says("3 a NAME told already (of its sort)");
        faulty("part a;part b;part a;", 3, 19);
        faulty("part a;note n of a at 0 key 0 long 1;note n of a at 0 key 0 long 1;", 3, 42);
        fine("part a;note a of a at 0 key 0 long 1;part b;");
        says("4 a number that can't be");
        faulty("beats 0;", 4, 6);
        faulty("fingers 6;", 4, 8);
        says("5 a NAME that no PART has.");
        faulty("part a;note n of n at 0 key 0 long 1;", 5, 17);
        faulty("note n of a", 5, 10);
    }

    // ---- ==== 2.

    private static void whatIsNow() {
        notesAndPedal();
        missed();
        heldAndSounds();
        clashesOfHands();
        acts();
    }

    private static void notesAndPedal() {
        says("A NOTE has its KEY, is so LONG, so LOUD (as told, at first)");
        NinetyPlayers x = notes("", "0 40 2 7", "1 50 3 8");
        row("KEYS", all(x, 2), 40, 50);
        row("LONG", all(x, 3), 2, 3);
        row("LOUD", all(x, 4), 7, 8);
        says("is given to a HAND (1 the left one, 2 the right one) or left out (0; so are all at first).");
        row("HANDS", all(x, 5), 0, 0);
        x.give(0, 1);
        x.give(1, 2);
        row("HANDS", all(x, 5), 1, 2);
        is("left above right, clash(1)", clash(given(notes("", "0 50 1", "0 40 1"), LEFT, RIGHT))[0], 4);
        is("left below right, clash(1)", clash(given(notes("", "0 50 1", "0 40 1"), RIGHT, LEFT))[0], 0);
        says("A BEAT has PEDAL or not (none at first).");
        is("about(7)", x.about(7), 0);
        x.pedal(3);
        is("about(7)", x.about(7), 8);
    }

    private static void missed() {
        says("MISSED of a NOTE: what comes of missed");
        comes("key+loud", 47);
        says("(loud + role * 5 - doubled, if it is not told)");
        NinetyPlayers x = of("part t tune;part b bass;part p;note a of t at 0 key 40 long 1 loud 3;"
                + "note b of b at 0 key 52 long 1 loud 4;note c of p at 1 key 40 long 1 loud 6;");
        row("MISSED", all(x, 6), 12, 8, 6);
        says("by role (of its PART), key, long, loud,");
        comes("role*100+long*10+loud", 237);
        x = notes("missed role*100+key+long*10+loud;", "0 5 1 1");
        is("MISSED", x.note(0, 6), 16);
        x.shift(0, 1);
        x.last(0, 2);
        x.louder(0, 4);
        is("MISSED as it is now", x.note(0, 6), 41);
        says("doubled (how many other NOTES, given to a HAND or not, begin at the same BEAT and have a KEY that differs by whole twelves, "
                + "0 too)");
        x = notes("missed doubled;", "0 40 1", "0 52 5", "0 16 1", "0 40 1", "0 41 1", "1 40 1");
        row("MISSED", all(x, 6), 3, 3, 3, 3, 0, 0);
        given(x, 1, 2);
        row("MISSED", all(x, 6), 3, 3, 3, 3, 0, 0);
        says("beat (at which it begins");
        row("MISSED", all(notes("missed beat;", "0 1 1", "7 1 1", "11 1 1"), 6), 0, 7, 11);
        says("ints, wrapping");
        comes("4096*4096*128-1", 999);
        comes("4096*4096*128", 0);
        comes("4096*4096*256+5", 5);
        says("/ cut, % its rest, both by 0: 0");
        comes("7/2", 3);
        comes("(0-7)/2+10", 7);
        comes("(0-7)%4+10", 7);
        comes("7%4", 3);
        comes("5+7/0", 5);
        comes("5+7%0", 5);
        says("relations, and, or, not are 1 or 0, of what is not 0)");
        comes("5<6", 1);
        comes("6=5", 0);
        comes("5 and (0-6)", 1);
        comes("0 or 7", 1);
        comes("not 7", 0);
        comes("not 0", 1);
        says("0 at least, 999 at most.");
        comes("5-6", 0);
        comes("1000", 999);
        comes("999", 999);
    }

    private static void heldAndSounds() {
        says("A NOTE given to a HAND is HELD at each BEAT from that at which it begins, so LONG");
        NinetyPlayers x = notes("beats 6;", "1 40 3", "0 50 1");
        row("held(.., 2), left out", held(x, RIGHT), 0, 0, 0, 0, 0, 0);
        x.give(0, RIGHT);
        row("held(.., 2)", held(x, RIGHT), 0, 1, 1, 1, 0, 0);
        row("held(.., 1)", held(x, LEFT), 0, 0, 0, 0, 0, 0);
        says("(to the last BEAT at most)");
        x = given(notes("beats 3;", "1 40 12"), LEFT);
        row("held(.., 1)", held(x, LEFT), 0, 1, 1);
        says("but no more from the first BEAT with PEDAL behind that at which it begins.");
        x = given(notes("beats 6;", "1 40 5"), LEFT);
        x.pedal(1);
        row("held(.., 1), PEDAL where it begins", held(x, LEFT), 0, 1, 1, 1, 1, 1);
        x.pedal(3);
        row("held(.., 1), PEDAL behind", held(x, LEFT), 0, 1, 1, 0, 0, 0);
        says("It SOUNDS at a BEAT, if it is HELD");
        x = given(notes("beats 6;", "1 40 3", "1 50 9"), LEFT);
        row("sounds", sounds(x), 0, 1, 1, 1, 0, 0);
        says("or if it SOUNDED at the BEAT ahead and this one has PEDAL.");
        x.pedal(3);
        row("sounds", sounds(x), 0, 1, 1, 1, 0, 0);
        x.pedal(4);
        row("sounds", sounds(x), 0, 1, 1, 1, 1, 0);
        x.pedal(4);
        x.pedal(5);
        row("sounds", sounds(x), 0, 1, 1, 1, 0, 0);
    }

    private static void clashesOfHands() {
        says("CLASHES of a HAND at a BEAT: 1, it HOLDS more NOTES than it has fingers");
        is("two", given(notes("fingers 2;", "0 40 1", "0 41 1"), LEFT, LEFT).clash(0), 0);
        is("three", given(notes("fingers 2;", "0 40 1", "0 41 1", "0 42 1"), LEFT, LEFT, LEFT).clash(0), 1);
        is("three in both", given(notes("fingers 2;", "0 40 1", "0 41 1", "0 42 1"), LEFT, LEFT, RIGHT).clash(0), 0);
        says("2, their lowest and highest KEY differ by more than span tells");
        is("12", given(notes("span 12;", "0 40 1", "0 52 1"), RIGHT, RIGHT).clash(0), 0);
        is("13", given(notes("span 12;", "0 40 1", "0 53 1"), RIGHT, RIGHT).clash(0), 2);
        says("16, it HOLDS some at this BEAT and at the one ahead, and the lowest KEYS of both differ by more than leap tells.");
        row("5", clash(given(notes("beats 3;leap 5;", "0 40 1", "1 45 1"), LEFT, LEFT)), 0, 0, 0);
        row("6", clash(given(notes("beats 3;leap 5;", "0 40 1", "1 46 1"), LEFT, LEFT)), 0, 16, 0);
        row("down", clash(given(notes("beats 3;leap 5;", "0 46 1", "1 40 1"), LEFT, LEFT)), 0, 16, 0);
        row("the lowest", clash(given(notes("beats 3;leap 5;", "0 40 1", "1 41 1", "1 50 1"), LEFT, LEFT, LEFT)), 0, 0, 0);
        row("another hand", clash(given(notes("beats 3;leap 5;", "0 40 1", "1 46 1"), LEFT, RIGHT)), 0, 0, 0);
        row("a rest", clash(given(notes("beats 3;leap 5;", "0 40 1", "2 80 1"), LEFT, LEFT)), 0, 0, 0);
        says("CLASHES of both at a BEAT: 4, the left one HOLDS a KEY that is not below each one that the right one HOLDS");
        is("below", given(notes("", "0 40 1", "0 41 1"), LEFT, RIGHT).clash(0), 0);
        is("above", given(notes("", "0 41 1", "0 40 1"), LEFT, RIGHT).clash(0), 4);
        is("one of them", given(notes("", "0 40 1", "0 45 1", "0 44 1", "0 50 1"), LEFT, LEFT, RIGHT, RIGHT).clash(0), 4);
        is("the same", given(notes("", "0 40 1", "0 40 1"), LEFT, RIGHT).clash(0), 4 + 8);
        says("8, two NOTES HELD (by one HAND, too) have one KEY.");
        is("by one", given(notes("", "0 40 1", "0 40 1"), LEFT, LEFT).clash(0), 8);
        is("an octave", given(notes("", "0 40 1", "0 52 1"), LEFT, LEFT).clash(0), 0);
        is("one left out", given(notes("", "0 40 1", "0 40 1"), LEFT).clash(0), 0);
        says("CLASHES of a BEAT: all these together.");
        row("together", clash(given(notes("beats 2;fingers 1;span 5;leap 3;", "0 40 2", "1 60 1", "1 60 1", "1 30 1"),
                LEFT, LEFT, RIGHT, LEFT)), 0, 1 + 2 + 4 + 8 + 16);
        says("It CAN BE PLAYED, if no BEAT has any.");
        is("clashes()", given(notes("beats 2;", "0 40 2", "1 41 1"), LEFT, LEFT).clashes(), 0);
        is("clashes()", given(notes("beats 2;", "0 40 2", "1 40 1"), LEFT, LEFT).clashes(), 2);
    }

    private static void acts() {
        NinetyPlayers x = notes("", "0 40 2 7", "1 50 3 8");
        says("ACTS: a NOTE is given to a HAND, or left out");
        x.give(0, 2);
        is("HAND", x.note(0, 5), 2);
        x.give(0, 0);
        is("HAND", x.note(0, 5), 0);
        is("about(8)", x.about(8), 2);
        says("its KEY is shifted by octaves (twelves)");
        x.shift(0, -2);
        is("KEY", x.note(0, 2), 16);
        is("about(8)", x.about(8), 3);
        says("it is made so LOUD");
        x.louder(1, 1);
        is("LOUD", x.note(1, 4), 1);
        is("about(8)", x.about(8), 4);
        says("it is made so LONG");
        x.last(1, 12);
        is("LONG", x.note(1, 3), 12);
        is("about(8)", x.about(8), 5);
        says("PEDAL at a BEAT comes or goes.");
        x.pedal(5);
        is("PEDAL", x.about(7), 32);
        x.pedal(5);
        is("PEDAL", x.about(7), 0);
        is("about(8)", x.about(8), 7);
        says("UNDO takes back the latest ACT that was not");
        x.undo();
        is("PEDAL", x.about(7), 32);
        x.undo();
        x.undo();
        is("PEDAL", x.about(7), 0);
        is("LONG", x.note(1, 3), 3);
        x.undo();
        is("LOUD", x.note(1, 4), 8);
        x.undo();
        is("KEY", x.note(0, 2), 40);
        x.undo();
        is("HAND", x.note(0, 5), 2);
        x.undo();
        is("HAND", x.note(0, 5), 0);
        is("undo()", x.undo(), false);
        says("REDO does that again which was taken back last (till another ACT)");
        is("redo()", x.redo(), true);
        is("HAND", x.note(0, 5), 2);
        x.redo();
        x.redo();
        is("KEY", x.note(0, 2), 16);
        x.pedal(9);
        is("redo() behind another ACT", x.redo(), false);
        says("40 at most are kept, the oldest go.");
        x = notes("", "0 40 1");
        for (int act = 1; act <= 45; act++) {
            x.louder(0, act == 5 ? 9 : act % 2 + 1);
        }
        is("about(8)", x.about(8), 40);
        int undone = 0;
        for (int i = 0; i < 45 && x.undo(); i++) {
            undone++;
        }
        is("undone", undone, 40);
        is("as it was behind the fifth", x.note(0, 4), 9);
    }

    // ---- ==== 3.

    private static void whatWouldBe() {
        nothingIsDone();
        version();
        forbidsAndGiveWay();
        shiftAndPedals();
        spreadToEasier();
    }

    private static NinetyPlayers inTheMiddle() {
        NinetyPlayers x = notes("beats 5;fingers 2;", "0 40 3", "1 45 2 9", "2 41 1", "0 60 5", "3 42 2");
        given(x, LEFT, LEFT, LEFT, RIGHT);
        x.pedal(2);
        x.heard(1, 45, true);
        x.image(1);
        x.shift(3, 1);
        x.louder(3, 3);
        x.undo();
        return x;
    }

    private static void nothingIsDone() {
        says("(By what is now; nothing is done.)");
        NinetyPlayers x = inTheMiddle();
        for (int what = 0; what < 2; what++) {
            x.version(what);
            x.child(1 + what, 12);
            x.giveway(4, 1 + what, what);
            x.letin(4, what);
            x.pedals(what);
            x.forbids(4, 1 + what);
            x.spread(1 + what);
            x.leaps(1 + what);
            x.busiest(1 + what);
            x.could(1 + what);
            x.easier(what);
            x.open(what);
            x.law(what);
        }
        x.loss();
        x.blur();
        x.lost();
        x.gaps();
        x.thickest();
        x.dearest();
        checksOfSentence++;
        NinetyPlayers twin = inTheMiddle();
        TALLY.same(sentence, "all questions", View.of(x, false), View.of(twin, false));
        TALLY.same(sentence, "all questions", View.bringOut(x), View.bringOut(twin));
    }

    private static void version() {
        says("LOSS: how much all that are left out are MISSED, together.");
        NinetyPlayers x = notes("", "0 40 1 3", "1 41 1 4", "2 42 1 9");
        is("loss()", x.loss(), 16);
        x.give(1, 1);
        is("loss()", x.loss(), 12);
        says("VERSION: NOTES given to HANDS anew, or left out");
        x = given(notes("", "0 40 1 3", "0 40 1 4"), RIGHT, OUT);
        is("version(0), each doubled by the other", x.version(0), 2);
        row("lies", lying(x), 0, 1);
        row("HANDS are as they were", all(x, 5), 2, 0);
        says("(PEDAL as it is)");
        x = notes("", "0 40 3", "1 40 1");
        is("version(1)", x.version(1), 1);
        x.pedal(1);
        is("version(1) with PEDAL", x.version(1), 2);
        x = notes("leap 1;", "0 40 3", "1 43 1");
        row("lies", lie(x), 1, 1);
        x.pedal(1);
        row("lies with PEDAL", lie(x), 1, 2);
        says("so that it CAN BE PLAYED and the LOSS is least");
        x = notes("fingers 1;", "0 40 1 3", "0 41 1 9", "0 42 1 2", "0 43 1 8");
        is("version(0)", x.version(0), 5);
        row("lies", lying(x), 0, 1, 0, 2);
        says("of like ones the first (NOTE by NOTE: left, right, out).");
        row("one", lie(notes("", "0 40 1")), 1);
        row("left is above", lie(notes("span 0;", "0 60 1", "0 40 1")), 2, 1);
        row("one KEY", lie(notes("", "0 40 1", "0 40 1")), 1, 0);
        row("three", lie(notes("fingers 1;", "0 40 1", "0 41 1", "0 42 1")), 1, 2, 0);
        says("CHILD: likewise, with so many fingers and such a span as are asked for.");
        x = notes("fingers 5;span 12;", "0 40 1 3", "0 45 1 4", "0 50 1 2");
        is("child(1, 12)", x.child(1, 12), 2);
        row("lies", lying(x), 1, 2, 0);
        is("child(5, 4)", x.child(5, 4), 2);
        row("lies", lying(x), 1, 2, 0);
        is("child(5, 5)", x.child(5, 5), 0);
        row("lies", lying(x), 1, 1, 2);
        is("child(5, 10)", x.child(5, 10), 0);
        row("lies", lying(x), 1, 1, 1);
    }

    private static int[] lie(NinetyPlayers x) {
        x.version(0);
        return lying(x);
    }

    private static void forbidsAndGiveWay() {
        says("FORBIDS a NOTE in a HAND: CLASHES that some BEATS have, if it is given to that HAND, and have not as it is.");
        NinetyPlayers x = given(notes("beats 4;", "0 40 1", "0 60 1", "1 75 1", "0 61 1"), LEFT);
        is("forbids(1, 1)", x.forbids(1, LEFT), 2);
        is("forbids(1, 2)", x.forbids(1, RIGHT), 0);
        is("forbids(2, 1)", x.forbids(2, LEFT), 16);
        x.give(1, LEFT);
        is("forbids(3, 1), as wide as it is", x.forbids(3, LEFT), 0);
        says("GIVE WAY to a NOTE in a HAND: the fewest others that are given to a HAND to be left out so that, it being given to that HAND, "
                + "it CAN BE PLAYED");
        x = given(notes("fingers 2;", "0 40 2 9", "0 41 1 1", "1 42 1 1", "0 43 2 1"), LEFT, LEFT, LEFT);
        is("giveway(3, 1, 0)", x.giveway(3, LEFT, 0), 1);
        is("giveway(3, 1, 1)", x.giveway(3, LEFT, 1), 1);
        is("giveway(3, 2, 0)", x.giveway(3, RIGHT, 0), 0);
        is("giveway(3, 2, 1)", x.giveway(3, RIGHT, 1), 0);
        x = given(notes("", "0 40 1", "0 40 1", "0 30 1"), OUT, RIGHT, LEFT);
        is("giveway(0, 1, 1), the other HAND's", x.giveway(0, LEFT, 1), 2);
        says("of like ones these that are MISSED least together");
        x = given(notes("fingers 1;", "0 40 1 9", "1 40 1 9", "0 50 1 3", "1 50 1 3", "0 45 2 1"), LEFT, LEFT, RIGHT, RIGHT);
        is("giveway(4, 1, 1)", x.giveway(4, LEFT, 1), 1 + 2);
        x = given(notes("fingers 2;", "0 40 1 9", "0 41 1 3", "0 42 1 1"), LEFT, LEFT);
        is("giveway(2, 1, 1)", x.giveway(2, LEFT, 1), 2);
        says("then the least set as bits.");
        x = given(notes("fingers 2;", "0 40 1 3", "0 41 1 3", "0 42 1 1"), LEFT, LEFT);
        is("giveway(2, 1, 1)", x.giveway(2, LEFT, 1), 1);
    }

    private static int[] letin(NinetyPlayers x, int note) {
        return new int[] {x.letin(note, 0), x.letin(note, 1)};
    }

    private static void shiftAndPedals() {
        says("SHIFT of a NOTE: by how few octaves (0: none) up (above 0) or down (below 0; KEYS 0 .. 87) it were so that, given to a HAND, "
                + "it CAN BE PLAYED");
        row("none", letin(notes("", "0 40 1"), 0), 0, 1);
        row("up", letin(given(notes("", "0 5 1", "0 5 1"), LEFT), 1), 1, 1);
        row("down", letin(given(notes("", "0 80 1", "0 80 1"), RIGHT), 1), -1, 1);
        row("two up", letin(given(notes("span 5;", "0 40 1", "0 60 1", "0 40 1"), LEFT, RIGHT), 2), 2, 2);
        row("two down", letin(given(notes("span 5;", "0 40 1", "0 60 1", "0 60 1"), LEFT, RIGHT), 2), -2, 1);
        row("seven up", letin(given(notes("span 5;", "0 80 1", "0 0 1"), LEFT), 1), 7, 1);
        row("seven down", letin(given(notes("span 5;", "0 5 1", "0 86 1"), RIGHT), 1), -7, 1);
        says("of like ones up, then the left HAND.");
        row("up and down", letin(given(notes("", "0 40 1", "0 40 1"), LEFT), 1), 1, 1);
        row("up by the right one, down by the left one", letin(given(notes("span 0;", "0 40 1", "0 40 1"), LEFT), 1), 1, 2);
        row("down by the left one", letin(given(notes("span 0;", "0 80 1", "0 80 1"), RIGHT), 1), -1, 1);
        says("PEDALS: the fewest BEATS with PEDAL");
        NinetyPlayers x = given(notes("beats 5;", "0 40 5", "2 40 1"), LEFT, LEFT);
        is("pedals(0)", x.pedals(0), 1);
        x = given(notes("beats 5;", "0 40 5", "2 40 3", "4 40 1"), LEFT, LEFT, LEFT);
        is("pedals(0)", x.pedals(0), 2);
        says("(those that have it now do not count: all anew)");
        x = given(notes("beats 5;", "0 40 5", "2 40 1"), LEFT, LEFT);
        x.pedal(2);
        x.pedal(4);
        is("pedals(0)", x.pedals(0), 1);
        is("pedals(1)", x.pedals(1), 2);
        says("by which it CAN BE PLAYED");
        x = given(notes("beats 5;", "0 40 5", "2 40 1"), LEFT, LEFT);
        is("clashes()", x.clashes(), 4);
        x.pedal(1);
        is("clashes() with these", x.clashes(), 0);
        says("of like ones the least set as bits.");
        is("pedals(1)", x.pedals(1), 2);
        x = given(notes("beats 5;", "0 40 5", "2 40 3", "4 40 1"), LEFT, LEFT, LEFT);
        is("pedals(1)", x.pedals(1), 2 + 8);
    }

    private static void spreadToEasier() {
        says("SPREAD of a HAND: the most by which KEYS that it HOLDS at a BEAT differ.");
        NinetyPlayers x = given(notes("", "0 40 1", "0 47 1", "1 60 2", "2 64 1", "0 80 1"), LEFT, LEFT, LEFT, LEFT, RIGHT);
        is("spread(1)", x.spread(LEFT), 7);
        is("spread(2)", x.spread(RIGHT), 0);
        says("LEAPS of a HAND: the most by which its lowest KEYS at a BEAT and the one ahead differ (both with some HELD).");
        is("leaps(1)", x.leaps(LEFT), 20);
        is("leaps(2)", x.leaps(RIGHT), 0);
        is("leaps(1) over a rest", given(notes("", "0 40 1", "2 80 1"), LEFT, LEFT).leaps(LEFT), 0);
        says("BLUR: at each BEAT, twos of NOTES that SOUND and whose KEYS differ by 1 or 2, one at least not HELD, together.");
        x = given(notes("beats 4;", "0 40 1", "1 42 1", "1 43 1"), LEFT, LEFT, LEFT);
        is("blur(), no PEDAL", x.blur(), 0);
        x.pedal(1);
        is("blur(): 40 by 42", x.blur(), 1);
        x.pedal(2);
        is("blur(): and 40 by 42, 42 by 43", x.blur(), 3);
        is("blur(), one KEY", pedalled(given(notes("beats 2;", "0 40 1", "1 40 1"), LEFT, LEFT), 1).blur(), 0);
        is("blur(), 3 apart", pedalled(given(notes("beats 2;", "0 40 1", "1 43 1"), LEFT, LEFT), 1).blur(), 0);
        is("blur(), both HELD", given(notes("beats 2;", "0 40 1", "0 41 1"), LEFT, LEFT).blur(), 0);
        says("OPEN at a BEAT is a NOTE that SOUNDS, if no other one that SOUNDS is more than ear tells LOUDER.");
        x = given(notes("ear 2;", "0 40 1 5", "0 41 1 7", "0 42 1 4", "0 43 1 9", "1 44 1 1"), LEFT, LEFT, LEFT, OUT, LEFT);
        is("open(0)", x.open(0), 1 + 2);
        is("open(1)", x.open(1), 16);
        is("open(2)", x.open(2), 0);
        x.give(3, RIGHT);
        is("open(0)", x.open(0), 2 + 8);
        says("LOST is a NOTE of a tune that is given to a HAND and not OPEN at the BEAT at which it begins.");
        x = of("part t tune;part p;note a of t at 0 key 40 long 2 loud 5;note b of p at 1 key 30 long 1 loud 9;"
                + "note c of t at 1 key 42 long 1 loud 6;note d of t at 1 key 43 long 1 loud 1;note e of p at 1 key 44 long 1 loud 1;");
        given(x, LEFT, LEFT, LEFT, OUT, RIGHT);
        is("lost()", x.lost(), 4);
        says("GAPS: BEATS at which no NOTE of a tune SOUNDS.");
        x = of("beats 5;part t tune;part p;note a of t at 1 key 40 long 1;note b of p at 3 key 41 long 1;note c of t at 4 key 40 long 1;");
        is("gaps()", x.gaps(), 31);
        given(x, LEFT, LEFT, LEFT);
        is("gaps()", x.gaps(), 1 + 4 + 8);
        x.pedal(2);
        is("gaps()", x.gaps(), 1 + 8);
        says("EASIER by a NOTE: how many BEATS less have CLASHES, if it is left out.");
        x = given(notes("beats 4;", "0 40 2", "0 40 3", "2 40 1", "3 80 1"), LEFT, LEFT, LEFT, LEFT);
        row("clash", clash(x), 8, 8, 8, 16);
        row("easier", new int[] {x.easier(0), x.easier(1), x.easier(2), x.easier(3)}, 2, 3, 1, 1);
        x = given(notes("beats 2;span 87;", "0 40 1", "1 41 1", "1 80 1", "0 80 1"), LEFT, LEFT, LEFT, OUT);
        is("easier, below 0", x.easier(1), -1);
    }

    private static NinetyPlayers pedalled(NinetyPlayers x, int beat) {
        x.pedal(beat);
        return x;
    }

    // ---- ==== 4.

    private static void whatWasHeard() {
        says("HEARD, 30 at most");
        NinetyPlayers x = notes("", "0 40 2", "1 40 2", "1 50 1");
        for (int i = 0; i < 30; i++) {
            is("heard", x.heard(9, 9, false), i);
        }
        is("heard", x.heard(9, 9, false), NONE);
        says("is TOLD at a TIME (0 at first, goes on)");
        x = notes("", "0 40 2", "1 40 2", "1 50 1");
        is("TIME", x.about(11), 0);
        x.heard(0, 40, true);
        is("later(5)", x.later(5), 5);
        x.heard(1, 50, false);
        row("sets", new int[] {x.sets(-1), x.sets(0), x.sets(4), x.sets(5)}, 8, 4, 4, 2);
        says("UNTOLD at a later one or the same");
        is("untell(1) at the same", x.untell(1), true);
        row("sets", new int[] {x.sets(4), x.sets(5), x.sets(6)}, 4, 4, 4);
        x.later(2);
        is("untell(0) at a later", x.untell(0), true);
        row("sets", new int[] {x.sets(6), x.sets(7)}, 4, 8);
        says("of the score as it was told (no PEDAL)");
        x = notes("", "0 40 1");
        x.heard(1, 40, true);
        is("sets(0)", x.sets(0), 0);
        x.give(0, LEFT);
        x.pedal(1);
        x.last(0, 5);
        is("sets(0)", x.sets(0), 0);
        x = notes("", "0 40 1");
        x.heard(0, 40, true);
        x.shift(0, 1);
        is("sets(0)", x.sets(0), 1);
        says("of which some NOTES were played (it does not matter by which HAND), which is not known: that at a BEAT a KEY SOUNDED, "
                + "or did not.");
        x = notes("", "0 40 2", "1 40 2", "1 50 1");
        is("sets(0)", x.sets(0), 8);
        x.heard(1, 40, true);
        is("sets(0), 40 at 1: the first, the second or both", x.sets(0), 6);
        x.heard(2, 40, false);
        is("sets(0), not at 2: the first alone", x.sets(0), 2);
        given(x, OUT, RIGHT, LEFT);
        is("sets(0)", x.sets(0), 2);
        says("As known at k that counts that was TOLD at k or before");
        x = notes("", "0 40 2", "1 50 2");
        x.later(10);
        x.heard(0, 40, true);
        row("sets", new int[] {x.sets(9), x.sets(10), x.sets(11)}, 4, 2, 2);
        says("not UNTOLD at k or before.");
        x.later(10);
        x.untell(0);
        row("sets", new int[] {x.sets(9), x.sets(10), x.sets(19), x.sets(20), x.sets(21)}, 4, 2, 2, 4, 4);
        says("SETS: sets of NOTES by which all that counts is so.");
        x.heard(1, 50, true);
        x.heard(1, 50, false);
        row("sets", new int[] {x.sets(19), x.sets(20)}, 2, 0);
        says("SURE of a NOTE: whether it was played, if it is the same in all.");
        x = notes("", "0 40 2", "1 50 2", "1 60 1");
        x.heard(0, 40, true);
        x.heard(1, 60, false);
        row("sure", new int[] {x.sure(0, 0), x.sure(1, 0), x.sure(2, 0)}, 1, -2, 0);
        says("ASK: the NOTE of which to know whether it was played would leave the fewest of these at the most; of like ones the first.");
        is("ask(0, 0)", x.ask(0, 0), 1);
        is("ask(1, 0)", x.ask(1, 0), 1);
        x = notes("", "0 40 2", "1 50 2", "1 60 1");
        is("ask(0, 0), of like ones", x.ask(0, 0), 0);
        is("ask(1, 0)", x.ask(1, 0), 4);
        x = notes("", "0 40 1", "0 40 1", "0 50 1");
        x.heard(0, 40, true);
        is("ask(0, 0): 2 of 6 are without the first, 3 without the last", x.ask(0, 0), 2);
        is("ask(1, 0)", x.ask(1, 0), 3);
        says("The constants: NONE = -1: There is none.");
        is("NONE", NinetyPlayers.NONE, -1);
    }

    // ---- the promises

    private static void promises() {
        theTape();
        notesPartsBeats();
        whatIsDone();
        whatIsAsked();
        whatIsAskedOfHands();
        whatLiesAndTime();
        images();
        about();
    }

    private static void theTape() {
        says("An empty SCORE (12 beats).");
        NinetyPlayers x = new NinetyPlayers();
        is("about(2)", x.about(2), 12);
        is("clash(11)", x.clash(11), 0);
        is("clash(12)", x.clash(12), NONE);
        says("Twenty bytes come behind those on the TAPE, of each number the highest first: how many there are");
        is("'ear 7;'", x.feed(0x65617220, 0x373b2020, 0x20202020, 0x20202020, 0x20202020), 20);
        is("blanks, 'span 8;'", x.feed(0x20202020, 0x20202020, 0x20202020, 0x20737061, 0x6e20383b), 40);
        is("score()", x.score(), 0);
        is("ear", x.about(6), 7);
        is("span", x.about(3), 8);
        says("NONE, and nothing comes, if there would be more than 1,600.");
        Tally.put(x, " ".repeat(1581));
        is("feed()", x.feed(0, 0, 0, 0, 0), NONE);
        is("about(12)", x.about(12), 1581);
        says("The TAPE has its first n bytes: n");
        is("end(1580)", x.end(1580), 1580);
        is("about(12)", x.about(12), 1580);
        is("feed()", x.feed(0x20202020, 0x20202020, 0x20202020, 0x20206561, 0x7220383b), 1600);
        is("score()", x.score(), 0);
        is("ear", x.about(6), 8);
        says("NONE, doing nothing, if it has not so many, or n is below 0.");
        Tally.put(x, "ear 9;");
        is("end(7)", x.end(7), NONE);
        is("end(-1)", x.end(-1), NONE);
        is("about(12)", x.about(12), 6);
        says("The TAPE (empty then) is the SCORE");
        is("score()", x.score(), 0);
        is("ear", x.about(6), 9);
        is("about(12)", x.about(12), 0);
        scoreAnew();
        says("NONE: a FAULT (all stays).");
        x = inTheMiddle();
        is("score()", Tally.tell(x, "ear 1;part a;part a;"), NONE);
        x.fault(0);
        NinetyPlayers twin = inTheMiddle();
        Tally.tell(twin, "ear 2;part a;part a;");
        TALLY.same(sentence, "score() of a FAULT", View.of(x, true), View.of(twin, true));
        TALLY.same(sentence, "score() of a FAULT", View.bringOut(x), View.bringOut(twin));
        is("ear", inTheMiddle().about(6), 2);
        says("Of the latest score() what 0: its FAULT (0), 1: its place (NONE).");
        x = new NinetyPlayers();
        row("none yet", new int[] {x.fault(0), x.fault(1)}, 0, NONE);
        Tally.tell(x, "ear 10;");
        row("a FAULT", new int[] {x.fault(0), x.fault(1)}, 4, 4);
        Tally.tell(x, "ear 1;");
        row("no FAULT", new int[] {x.fault(0), x.fault(1)}, 0, NONE);
        says("NONE for another what.");
        Tally.tell(x, "ear 10;");
        is("fault(2)", x.fault(2), NONE);
        is("fault(-1)", x.fault(-1), NONE);
    }

    private static void scoreAnew() {
        NinetyPlayers x = notes("", "0 40 1", "1 41 1");
        given(x, LEFT, RIGHT);
        x.shift(0, 1);
        x.last(0, 9);
        x.louder(0, 9);
        x.pedal(4);
        x.undo();
        x.pedal(4);
        x.heard(0, 40, true);
        x.version(0);
        x.image(0);
        x.image(1);
        x.image(2);
        x.later(9);
        is("score()", Tally.tell(x, Tally.lines("part p;", "0 40 1", "1 41 1")), 2);
        says("(all as told, all left out, no PEDAL");
        row("KEYS", all(x, 2), 40, 41);
        row("LONG", all(x, 3), 1, 1);
        row("LOUD", all(x, 4), 5, 5);
        row("HANDS", all(x, 5), 0, 0);
        is("about(7)", x.about(7), 0);
        says("no ACTS are kept, nothing is HEARD, nothing lies there, BOXES are empty then; the TIME stays)");
        is("undo()", x.undo(), false);
        is("redo()", x.redo(), false);
        is("about(10)", x.about(10), 0);
        is("untell(0)", x.untell(0), false);
        is("about(14)", x.about(14), 0);
        is("lies(0)", x.lies(0), NONE);
        row("differ", new int[] {x.differ(0), x.differ(1), x.differ(2)}, NONE, NONE, NONE);
        is("back(0)", x.back(0), NONE);
        is("about(11)", x.about(11), 9);
        says("how many NOTES");
        is("score() of no NOTES", Tally.tell(x, "part p;"), 0);
        is("score() of one", Tally.tell(x, "part p;note a of p at 0 key 0 long 1;"), 1);
    }

    private static void notesPartsBeats() {
        says("Of a NOTE what 0: its PART, 1: the BEAT at which it begins, 2: KEY, 3: LONG, 4: LOUD, 5: HAND (0: left out), 6: MISSED, "
                + "7: what doubles it, as bits");
        NinetyPlayers x = of("part q;part p tune;note a of q at 3 key 28 long 1;note b of p at 3 key 40 long 2 loud 6;"
                + "note c of q at 3 key 52 long 1;note d of q at 4 key 40 long 1;");
        x.give(1, RIGHT);
        int[] whole = new int[8];
        Arrays.setAll(whole, what -> x.note(1, what));
        row("note(1, ..)", whole, 1, 3, 40, 2, 6, 2, 6 + 10 - 2, 1 + 4);
        is("note(3, 7)", x.note(3, 7), 0);
        says("NONE if there is none such, or for another what.");
        is("note(4, 0)", x.note(4, 0), NONE);
        is("note(-1, 0)", x.note(-1, 0), NONE);
        is("note(0, 8)", x.note(0, 8), NONE);
        is("note(0, -1)", x.note(0, -1), NONE);
        says("Of a PART what 0: ROLE, 1: its NOTES, 2: those that are given to a HAND, both as bits");
        row("part(0, ..)", new int[] {x.part(0, 0), x.part(0, 1), x.part(0, 2)}, 0, 1 + 4 + 8, 0);
        row("part(1, ..)", new int[] {x.part(1, 0), x.part(1, 1), x.part(1, 2)}, 2, 2, 2);
        says("NONE if there is none such, or for another what.");
        is("part(2, 0)", x.part(2, 0), NONE);
        is("part(-1, 0)", x.part(-1, 0), NONE);
        is("part(0, 3)", x.part(0, 3), NONE);
        is("part(0, -1)", x.part(0, -1), NONE);
        says("What a HAND (1, 2) HOLDS at a BEAT, as bits");
        NinetyPlayers y = given(notes("beats 3;", "0 40 2", "1 41 2", "1 60 1"), LEFT, LEFT, RIGHT);
        row("held(.., 1)", held(y, LEFT), 1, 3, 2);
        row("held(.., 2)", held(y, RIGHT), 0, 4, 0);
        says("NONE if one can't be.");
        is("held(3, 1)", y.held(3, 1), NONE);
        is("held(-1, 1)", y.held(-1, 1), NONE);
        is("held(0, 0)", y.held(0, 0), NONE);
        is("held(0, 3)", y.held(0, 3), NONE);
        says("What SOUNDS at a BEAT, as bits");
        row("sounds(..)", sounds(y), 1, 7, 2);
        says("NONE if there is none such.");
        is("sounds(3)", y.sounds(3), NONE);
        is("sounds(-1)", y.sounds(-1), NONE);
        says("CLASHES of a BEAT, together");
        row("clash(..)", clash(given(notes("beats 2;", "0 40 1", "0 40 1", "1 70 1"), LEFT, RIGHT, LEFT)), 4 + 8, 16);
        says("NONE if there is none such.");
        is("clash(3)", y.clash(3), NONE);
        is("clash(-1)", y.clash(-1), NONE);
    }

    private static void whatIsDone() {
        NinetyPlayers x = notes("beats 3;", "0 40 1 7", "1 61 2", "1 40 1");
        says("A NOTE is given to a HAND (1, 2), or left out (0): CLASHES of all BEATS, as bits, then");
        is("give(0, 1)", x.give(0, 1), 0);
        is("give(1, 1)", x.give(1, 1), 2);
        is("give(2, 1)", x.give(2, 1), 2 + 4);
        is("give(2, 0)", x.give(2, 0), 2);
        says("NONE, doing nothing, if it is so, or one can't be.");
        is("give(1, 1)", x.give(1, 1), NONE);
        is("give(2, 0)", x.give(2, 0), NONE);
        is("give(3, 1)", x.give(3, 1), NONE);
        is("give(-1, 1)", x.give(-1, 1), NONE);
        is("give(0, 3)", x.give(0, 3), NONE);
        is("give(0, -1)", x.give(0, -1), NONE);
        row("HANDS", all(x, 5), 1, 1, 0);
        says("(An ACT.)");
        is("about(8)", x.about(8), 4);
        says("A NOTE is shifted by octaves (-7 .. 7, not 0): its KEY then");
        is("shift(0, -3)", x.shift(0, -3), 4);
        is("shift(0, 6)", x.shift(0, 6), 76);
        NinetyPlayers y = notes("", "0 3 1", "0 84 1");
        is("shift(0, 7)", y.shift(0, 7), 87);
        is("shift(0, -7)", y.shift(0, -7), 3);
        is("shift(1, -7)", y.shift(1, -7), 0);
        says("NONE, doing nothing, if it would not be 0 .. 87, or one can't be.");
        is("shift(0, 1)", x.shift(0, 1), NONE);
        is("shift(0, -7)", x.shift(0, -7), NONE);
        is("shift(0, 0)", x.shift(0, 0), NONE);
        is("shift(1, 8)", y.shift(1, 8), NONE);
        is("shift(1, -8)", y.shift(1, -8), NONE);
        is("shift(3, 1)", x.shift(3, 1), NONE);
        is("shift(-1, 1)", x.shift(-1, 1), NONE);
        row("KEYS", all(x, 2), 76, 61, 40);
        says("(An ACT.)");
        is("about(8)", x.about(8), 6);
        says("A NOTE is made so LOUD (1 .. 9): how it was");
        is("louder(0, 9)", x.louder(0, 9), 7);
        is("louder(0, 1)", x.louder(0, 1), 9);
        says("NONE, doing nothing, if it is so, or one can't be.");
        is("louder(0, 1)", x.louder(0, 1), NONE);
        is("louder(0, 0)", x.louder(0, 0), NONE);
        is("louder(0, 10)", x.louder(0, 10), NONE);
        is("louder(3, 1)", x.louder(3, 1), NONE);
        is("louder(-1, 1)", x.louder(-1, 1), NONE);
        row("LOUD", all(x, 4), 1, 5, 5);
        says("(An ACT.)");
        is("about(8)", x.about(8), 8);
        says("A NOTE is made so LONG (1 .. 12): how it was");
        is("last(1, 12)", x.last(1, 12), 2);
        is("last(1, 1)", x.last(1, 1), 12);
        says("NONE, doing nothing, if it is so, or one can't be.");
        is("last(1, 1)", x.last(1, 1), NONE);
        is("last(1, 0)", x.last(1, 0), NONE);
        is("last(1, 13)", x.last(1, 13), NONE);
        is("last(3, 2)", x.last(3, 2), NONE);
        is("last(-1, 2)", x.last(-1, 2), NONE);
        row("LONG", all(x, 3), 1, 1, 1);
        says("(An ACT.)");
        is("about(8)", x.about(8), 10);
        says("PEDAL at a BEAT comes, or goes: all BEATS with PEDAL, as bits, then");
        is("pedal(2)", x.pedal(2), 4);
        is("pedal(0)", x.pedal(0), 5);
        is("pedal(2)", x.pedal(2), 1);
        says("NONE, doing nothing, if there is none such.");
        is("pedal(3)", x.pedal(3), NONE);
        is("pedal(-1)", x.pedal(-1), NONE);
        is("about(7)", x.about(7), 1);
        says("(An ACT.)");
        is("about(8)", x.about(8), 13);
        says("UNDO: true; false if there is none.");
        is("undo()", x.undo(), true);
        is("about(7)", x.about(7), 5);
        is("undo() of a new object", new NinetyPlayers().undo(), false);
        says("REDO: true; false if there is none.");
        is("redo()", x.redo(), true);
        is("about(7)", x.about(7), 1);
        is("redo()", x.redo(), false);
    }

    private static void whatIsAsked() {
        says("BEATS that have CLASHES, as bits (0: it CAN BE PLAYED).");
        is("clashes()", given(notes("", "0 40 1", "1 70 2", "2 70 1"), LEFT, LEFT, LEFT).clashes(), 2 + 4);
        is("clashes()", given(notes("", "0 40 1", "1 41 2"), LEFT, LEFT).clashes(), 0);
        says("LOSS.");
        is("loss()", given(notes("", "0 40 1 9", "1 41 2 4", "1 42 2 3"), LEFT).loss(), 7);
        says("VERSION what 0: LOSS, 1: how many are played");
        NinetyPlayers x = notes("fingers 1;", "0 40 1 3", "0 41 1 9", "0 42 1 2", "0 43 1 8");
        is("version(0)", x.version(0), 5);
        is("version(1)", x.version(1), 2);
        says("NONE for another what.");
        is("version(2)", x.version(2), NONE);
        is("version(-1)", x.version(-1), NONE);
        says("The HAND of each NOTE lies there then.");
        row("lies", lie(x), 0, 1, 0, 2);
        is("about(14)", x.about(14), 4);
        says("CHILD (fingers 1 .. 5, span 0 .. 87): LOSS");
        x = notes("", "0 40 1 3", "0 41 1 9", "0 43 1 2", "0 54 1 8");
        is("child(1, 0)", x.child(1, 0), 5);
        is("child(5, 87)", x.child(5, 87), 0);
        says("NONE if one can't be.");
        is("child(0, 5)", x.child(0, 5), NONE);
        is("child(6, 5)", x.child(6, 5), NONE);
        is("child(5, 88)", x.child(5, 88), NONE);
        is("child(5, -1)", x.child(5, -1), NONE);
        says("The HAND of each NOTE lies there then (behind NONE: nothing).");
        x.child(1, 0);
        row("lies", lying(x), 0, 1, 0, 2);
        x.child(0, 0);
        is("about(14)", x.about(14), 0);
        is("lies(0)", x.lies(0), NONE);
        says("FORBIDS, together (0: none)");
        x = given(notes("", "0 40 1", "1 80 1", "0 40 2", "5 40 1"), LEFT, LEFT);
        is("forbids(2, 1)", x.forbids(2, LEFT), 8 + 2);
        is("forbids(2, 2)", x.forbids(2, RIGHT), 4 + 8);
        is("forbids(3, 1)", x.forbids(3, LEFT), 0);
        says("NONE if it is given to a HAND now, or one can't be.");
        is("forbids(0, 2)", x.forbids(0, 2), NONE);
        is("forbids(4, 1)", x.forbids(4, 1), NONE);
        is("forbids(-1, 1)", x.forbids(-1, 1), NONE);
        is("forbids(2, 0)", x.forbids(2, 0), NONE);
        is("forbids(2, 3)", x.forbids(2, 3), NONE);
        says("GIVE WAY what 0: how many, 1: which, as bits");
        is("giveway(2, 1, 0)", x.giveway(2, LEFT, 0), 2);
        is("giveway(2, 1, 1)", x.giveway(2, LEFT, 1), 1 + 2);
        says("NONE if it can't be so, it is given to a HAND now, or one can't be.");
        is("giveway(0, 1, 0)", x.giveway(0, 1, 0), NONE);
        is("giveway(4, 1, 0)", x.giveway(4, 1, 0), NONE);
        is("giveway(-1, 1, 0)", x.giveway(-1, 1, 0), NONE);
        is("giveway(2, 0, 0)", x.giveway(2, 0, 0), NONE);
        is("giveway(2, 3, 0)", x.giveway(2, 3, 0), NONE);
        is("giveway(2, 1, 2)", x.giveway(2, 1, 2), NONE);
        is("giveway(2, 1, -1)", x.giveway(2, 1, -1), NONE);
        says("SHIFT what 0: octaves, 1: the HAND");
        x = given(notes("span 0;", "0 40 1", "0 40 1"), LEFT);
        is("letin(1, 0)", x.letin(1, 0), 1);
        is("letin(1, 1)", x.letin(1, 1), 2);
        says("-100 if it can't be so, it is given to a HAND now, or one can't be.");
        is("letin(0, 0)", x.letin(0, 0), -100);
        is("letin(2, 0)", x.letin(2, 0), -100);
        is("letin(-1, 0)", x.letin(-1, 0), -100);
        is("letin(1, 2)", x.letin(1, 2), -100);
        is("letin(1, -1)", x.letin(1, -1), -100);
        x = given(notes("fingers 1;", "0 40 1", "0 60 1", "0 50 1"), LEFT, RIGHT);
        is("letin(2, 0)", x.letin(2, 0), -100);
        is("letin(2, 1)", x.letin(2, 1), -100);
        says("PEDALS what 0: how many, 1: at which BEATS, as bits");
        x = given(notes("", "0 40 5", "3 40 1"), LEFT, LEFT);
        is("pedals(0)", x.pedals(0), 1);
        is("pedals(1)", x.pedals(1), 2);
        says("NONE if by none, or for another what.");
        is("pedals(2)", x.pedals(2), NONE);
        is("pedals(-1)", x.pedals(-1), NONE);
        x = given(notes("", "0 40 5", "0 40 1"), LEFT, LEFT);
        is("pedals(0)", x.pedals(0), NONE);
        is("pedals(1)", x.pedals(1), NONE);
    }

    private static void whatIsAskedOfHands() {
        NinetyPlayers x = given(notes("beats 3;", "0 40 1", "0 47 1", "1 50 2", "2 60 1"), LEFT, LEFT, LEFT, RIGHT);
        says("SPREAD; NONE if there is no such HAND.");
        row("spread", new int[] {x.spread(1), x.spread(2), x.spread(0), x.spread(3)}, 7, 0, NONE, NONE);
        says("LEAPS; NONE if there is no such HAND.");
        row("leaps", new int[] {x.leaps(1), x.leaps(2), x.leaps(0), x.leaps(3)}, 10, 0, NONE, NONE);
        says("BLUR.");
        is("blur()", pedalled(given(notes("", "0 40 1", "1 41 1"), LEFT, LEFT), 1).blur(), 1);
        says("Who is OPEN at a BEAT, as bits; NONE if there is none such.");
        row("open", new int[] {x.open(0), x.open(2), x.open(3), x.open(-1)}, 3, 12, NONE, NONE);
        says("Who is LOST, as bits.");
        is("lost()", given(of("part p tune;note a of p at 0 key 1 long 1 loud 9;note b of p at 0 key 2 long 1;"), LEFT, LEFT).lost(), 2);
        says("GAPS, as bits.");
        is("gaps()", given(of("beats 3;part p tune;note a of p at 1 key 1 long 1;"), LEFT).gaps(), 1 + 4);
        says("EASIER (below 0, too); NONE if it is left out, or there is none such.");
        NinetyPlayers y = given(notes("beats 2;span 87;", "0 40 1", "1 41 1", "1 80 1", "1 41 1"), LEFT, LEFT, LEFT);
        row("easier", new int[] {y.easier(0), y.easier(1), y.easier(3), y.easier(4), y.easier(-1)}, 0, -1, NONE, NONE, NONE);
        y.give(3, LEFT);
        is("easier(3)", y.easier(3), 1);
        says("The BEAT at which most NOTES are HELD; of like ones the first.");
        is("thickest()", x.thickest(), 0);
        is("thickest()", given(notes("", "0 40 1", "2 41 2", "2 60 2"), LEFT, LEFT, RIGHT).thickest(), 2);
        is("thickest() of none", notes("", "3 40 1").thickest(), 0);
        says("The BEAT at which a HAND (1, 2) HOLDS most NOTES; of like ones the first; NONE if there is no such HAND.");
        row("busiest", new int[] {x.busiest(1), x.busiest(2), x.busiest(0), x.busiest(3)}, 0, 2, NONE, NONE);
        is("busiest(1), of like ones", given(notes("", "4 40 1", "6 41 2", "5 41 2"), LEFT, LEFT, LEFT).busiest(1), 6);
        is("busiest(1), of like ones", given(notes("", "4 40 1", "6 41 1"), LEFT, LEFT).busiest(1), 4);
        says("How many BEATS would have CLASHES, if span told n (0 .. 87); NONE for another n.");
        row("law", new int[] {x.law(0), x.law(6), x.law(7), x.law(87), x.law(88), x.law(-1)}, 1, 1, 0, 0, NONE, NONE);
        says("The NOTE left out that is MISSED most; of like ones the first; NONE if there is none such.");
        is("dearest()", notes("", "0 40 1 3", "0 50 1 7", "0 61 1 7").dearest(), 1);
        is("dearest()", given(notes("", "0 40 1 3", "0 50 1 7", "0 61 1 7"), OUT, LEFT).dearest(), 2);
        is("dearest()", given(notes("", "0 40 1 3"), LEFT).dearest(), NONE);
        says("NOTES left out that could be given to this HAND, each by itself, so that no BEAT has a CLASH that it has not now, as bits; "
                + "NONE if there is no such HAND.");
        y = given(notes("fingers 2;", "0 40 1", "0 41 1", "0 42 1", "0 53 1", "0 40 1"), LEFT);
        row("could", new int[] {y.could(1), y.could(2), y.could(0), y.could(3)}, 2 + 4, 2 + 4 + 8, NONE, NONE);
    }

    private static void whatLiesAndTime() {
        says("The i-th number of what lies there; NONE if there is none such.");
        NinetyPlayers x = notes("fingers 1;", "0 40 1", "0 41 1");
        is("lies(0), nothing yet", x.lies(0), NONE);
        x.version(1);
        row("lies", new int[] {x.lies(0), x.lies(1), x.lies(2), x.lies(-1)}, 1, 2, NONE, NONE);
        says("A HEARD (a BEAT, a KEY 0 .. 87): its number");
        x = notes("beats 3;", "0 40 1", "0 87 1");
        is("heard(0, 0, false)", x.heard(0, 0, false), 0);
        is("heard(2, 87, false)", x.heard(2, 87, false), 1);
        says("NONE, doing nothing, if one can't be, or there are 30.");
        is("heard(3, 0, true)", x.heard(3, 0, true), NONE);
        is("heard(-1, 0, true)", x.heard(-1, 0, true), NONE);
        is("heard(0, 88, true)", x.heard(0, 88, true), NONE);
        is("heard(0, -1, true)", x.heard(0, -1, true), NONE);
        is("about(10)", x.about(10), 2);
        is("sets(0)", x.sets(0), 4);
        for (int i = 2; i < 30; i++) {
            x.heard(0, 1, false);
        }
        is("heard, the 31st", x.heard(0, 1, true), NONE);
        is("sets(0)", x.sets(0), 4);
        says("It is UNTOLD: true; false if it is so already, or there is none such.");
        is("untell(29)", x.untell(29), true);
        is("untell(29)", x.untell(29), false);
        is("untell(30)", x.untell(30), false);
        is("untell(-1)", x.untell(-1), false);
        says("So much later (0 .. 1000): the TIME");
        is("later(0)", x.later(0), 0);
        is("later(1000)", x.later(1000), 1000);
        is("later(1)", x.later(1), 1001);
        says("NONE, doing nothing, for another number, or if it would be above 100,000.");
        is("later(-1)", x.later(-1), NONE);
        is("later(1001)", x.later(1001), NONE);
        is("about(11)", x.about(11), 1001);
        for (int i = 0; i < 98; i++) {
            x.later(1000);
        }
        is("later(1000)", x.later(1000), NONE);
        is("later(999)", x.later(999), 100000);
        is("later(1)", x.later(1), NONE);
        is("later(0)", x.later(0), 100000);
        says("SETS: how many (the empty one, too).");
        is("sets(0) of no NOTES", new NinetyPlayers().sets(0), 1);
        is("sets(0) of three", notes("", "0 1 1", "0 2 1", "0 3 1").sets(0), 8);
        says("SURE: 1, 0; -2 if it is not the same in all");
        x = notes("", "0 40 2", "1 50 2", "1 60 1");
        x.heard(0, 40, true);
        x.heard(1, 50, false);
        row("sure", new int[] {x.sure(0, 0), x.sure(1, 0), x.sure(2, 0)}, 1, 0, -2);
        says("NONE if there are no SETS, or there is none such.");
        is("sure(3, 0)", x.sure(3, 0), NONE);
        is("sure(-1, 0)", x.sure(-1, 0), NONE);
        x.heard(0, 40, false);
        is("sure(0, 0)", x.sure(0, 0), NONE);
        says("ASK what 0: the NOTE, 1: how many are left at the most");
        is("ask(0, -1)", x.ask(0, -1), 0);
        is("ask(1, -1)", x.ask(1, -1), 4);
        says("NONE if there are no SETS, no NOTES, or for another what.");
        row("no SETS", new int[] {x.ask(0, 0), x.ask(1, 0)}, NONE, NONE);
        row("no NOTES", new int[] {new NinetyPlayers().ask(0, 0), new NinetyPlayers().ask(1, 0)}, NONE, NONE);
        row("another what", new int[] {x.ask(2, -1), x.ask(-1, -1)}, NONE, NONE);
    }

    private static void images() {
        says("HANDS, KEYS, LONG, LOUD of all, PEDAL are kept in a BOX 0 .. 2: how many are given to a HAND");
        NinetyPlayers x = given(notes("", "0 40 2", "1 50 2", "1 60 1"), LEFT, RIGHT);
        x.pedal(3);
        is("image(0)", x.image(0), 2);
        is("image(2)", x.image(2), 2);
        says("NONE if there is none such.");
        is("image(3)", x.image(3), NONE);
        is("image(-1)", x.image(-1), NONE);
        says("All is as it was kept (no ACTS are kept then): how many are given to a HAND");
        x.give(2, RIGHT);
        x.give(0, OUT);
        x.shift(1, 1);
        x.last(1, 7);
        x.louder(1, 1);
        x.pedal(3);
        x.undo();
        is("image(1)", x.image(1), 2);
        x.give(1, OUT);
        is("back(0)", x.back(0), 2);
        row("HANDS", all(x, 5), 1, 2, 0);
        row("KEYS", all(x, 2), 40, 50, 60);
        row("LONG", all(x, 3), 2, 2, 1);
        row("LOUD", all(x, 4), 5, 5, 5);
        is("PEDAL", x.about(7), 8);
        row("ACTS", new int[] {x.about(8), x.about(9)}, 0, 0);
        says("NONE, doing nothing, if nothing was.");
        NinetyPlayers y = given(notes("", "0 40 2"), LEFT);
        y.image(1);
        row("back", new int[] {y.back(0), y.back(2), y.back(3), y.back(-1)}, NONE, NONE, NONE, NONE);
        is("about(8)", y.about(8), 1);
        says("NOTES that are otherwise (HAND, KEY, LONG or LOUD) than they were kept, as bits");
        is("differ(0)", x.differ(0), 0);
        is("differ(1)", x.differ(1), 7);
        y = notes("", "0 40 2", "0 41 2", "0 42 2", "0 43 2", "0 44 2");
        y.image(0);
        y.give(0, LEFT);
        y.shift(1, 1);
        y.last(2, 1);
        y.louder(3, 1);
        y.pedal(0);
        is("differ(0)", y.differ(0), 1 + 2 + 4 + 8);
        says("NONE if nothing was.");
        row("differ", new int[] {y.differ(1), y.differ(2), y.differ(3), y.differ(-1)}, NONE, NONE, NONE, NONE);
    }

    private static void about() {
        says("What 0: NOTES, 1: PARTS, 2: beats, 3: span, 4: fingers, 5: leap, 6: ear, 7: BEATS with PEDAL, as bits, "
                + "8: ACTS that can be undone, 9: redone, 10: what is HEARD, 11: the TIME, 12: bytes on the TAPE, 13: units, "
                + "14: numbers that lie there, 15: how many are given to a HAND.");
        NinetyPlayers x = notes("beats 9;span 8;fingers 4;leap 7;ear 6;missed 1+key*2;part q;", "0 40 2", "1 50 2");
        given(x, LEFT, RIGHT);
        x.pedal(0);
        x.pedal(4);
        x.give(1, OUT);
        x.undo();
        x.undo();
        x.heard(0, 0, true);
        x.later(77);
        x.version(0);
        x.feed(0, 0, 0, 0, 0);
        x.end(13);
        int[] whole = new int[16];
        Arrays.setAll(whole, x::about);
        row("about(..)", whole, 2, 2, 9, 8, 4, 7, 6, 1, 3, 2, 1, 77, 13, 3, 2, 2);
        says("NONE for another what.");
        is("about(16)", x.about(16), NONE);
        is("about(-1)", x.about(-1), NONE);
        is("about(8) is as it was", x.about(8), 3);
    }
}
