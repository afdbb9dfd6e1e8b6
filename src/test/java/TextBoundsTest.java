import java.util.List;

/** The text of a SCORE: each bound of its tokens and lines, and each FAULT with its place. */
public final class TextBoundsTest {
    private static final Tally TALLY = new Tally("TextBoundsTest");

    private static final String[] WORDS = {"beats", "part", "tune", "bass", "note", "of", "at", "key", "long", "loud", "missed", "span",
        "fingers", "leap", "ear", "or", "and", "not", "role", "doubled", "beat"};
    private static final String SIGNS = ";()<>=+-*/%";
    private static final String NOTE = "note a of p at 0 key 0 long 1;";
    /** A line of each sort, and each form of it, its tokens parted by one blank. */
    private static final String EVERY_FORM = "beats 4 ; part p tune ; part q bass ; part r ; "
            + "note a of p at 0 key 1 long 2 loud 3 ; note b of q at 3 key 4 long 5 ; "
            + "missed not 1 + 2 * role < ( key - 3 ) / 4 % 5 and long > loud or doubled = beat ; "
            + "span 1 ; fingers 2 ; leap 3 ; ear 4 ;";

    public static void main(String[] args) {
        textOfAtMost1600Bytes();
        emptyText();
        everyByteAlone();
        everyByteWithinALine();
        wordsOf8LettersAtMost();
        numbersOf1To4Digits();
        noLetterDirectlyBehindANumber();
        blanksPartThemOrNot();
        eachTokenAsLongAsCanBe();
        wordsThatStandForThemselvesAreNoNames();
        beatsBounds();
        beatsOnceAndAheadOfAllOthers();
        fourParts();
        tenNotes();
        noteNumbers();
        numberedAsToldEachSortByItself();
        onceEach();
        limitsBounds();
        thirtyUnits();
        withinSixOthers();
        unitTooManyPlaces();
        endOfTheText();
        tokenThatCantStandThere();
        nameToldAlready();
        nameThatNoPartHas();
        firstByItsPlace();
        atOnePlaceTheLeast();
        TALLY.end();
    }

    private static String blanks(int n) {
        return " ".repeat(n);
    }

    private static void textOfAtMost1600Bytes() {
        String s = "at most 1,600 bytes";
        for (int size : new int[] {1599, 1600}) {
            NinetyPlayers x = new NinetyPlayers();
            TALLY.due(s, "score() of " + size, Tally.tell(x, blanks(size - 6) + "ear 7;"), 0);
            TALLY.due(s, "the last line was read, of " + size, x.about(6), 7);
            TALLY.text(s, blanks(size - 1) + "$", 1, size - 1);
            TALLY.text(s, blanks(size - 3) + "ear", 2, size);
        }
        NinetyPlayers x = new NinetyPlayers();
        Tally.put(x, blanks(1594) + "ear 7;");
        TALLY.due(s, "feed beyond", x.feed(0x24242424, 0x24242424, 0x24242424, 0x24242424, 0x24242424), -1);
        TALLY.due(s, "what does not come is not read", x.score(), 0);
        TALLY.due(s, "what came is read", x.about(6), 7);
    }

    private static void emptyText() {
        TALLY.fine("score = {line}", "");
        TALLY.fine("score = {line}", " ");
        TALLY.fine("score = {line}", "\n");
        TALLY.fine("score = {line}", " \n\n  ");
        NinetyPlayers x = Tally.of("");
        int[] due = {0, 0, 12, 12, 5, 20, 2};
        for (int what = 0; what < due.length; what++) {
            TALLY.due("if not told", "about(" + what + ")", x.about(what), due[what]);
        }
    }

    private static boolean isLetter(int c) {
        return c >= 'a' && c <= 'z';
    }

    private static boolean isDigit(int c) {
        return c >= '0' && c <= '9';
    }

    private static void everyByteAlone() {
        for (int c = 0; c < 256; c++) {
            boolean blank = c == 32 || c == 10;
            boolean token = isLetter(c) || isDigit(c) || SIGNS.indexOf((char) c) >= 0;
            TALLY.text("TOKENS: words, N, signs; blanks (32, 10)", String.valueOf((char) c), blank ? 0 : token ? 2 : 1, 0);
            TALLY.text("1 no TOKEN", "ear 1;" + (char) c, blank ? 0 : token ? 2 : 1, 6);
        }
    }

    private static void everyByteWithinALine() {
        String s = "TOKENS: words, N, signs; blanks part them or not";
        for (int c = 0; c < 256; c++) {
            String text = "ear" + (char) c + "7;";
            if (c == 32 || c == 10 || c == '0') {
                TALLY.fine(s, text);
            } else if (isLetter(c)) {
                TALLY.text(s, text, 2, 0);
            } else if (isDigit(c)) {
                TALLY.text(s, text, 4, 3);
            } else {
                TALLY.text(s, text, SIGNS.indexOf((char) c) >= 0 ? 2 : 1, 3);
            }
        }
    }

    private static void wordsOf8LettersAtMost() {
        String s = "words (a .. z, 8 at most)";
        String[] names = {"a", "z", "az", "abcdefg", "abcdefgh", "zzzzzzzz", "aaaaaaaa"};
        for (String name : names) {
            TALLY.fine(s, "part " + name + ";");
            TALLY.fine(s, "part " + name + ";note " + name + " of " + name + " at 0 key 0 long 1;");
        }
        for (int size = 9; size <= 40; size++) {
            String name = "abcdefghijklmnopqrstuvwxyzabcdefghijklmnopqrstuvwxyz".substring(0, size);
            TALLY.text(s, "part " + name + ";", 1, 5);
            TALLY.text(s, "part p;note " + name + " of p", 1, 12);
            TALLY.text(s, "part p;note a of " + name + " at", 1, 17);
            TALLY.text(s, "missed " + name + ";", 1, 7);
            TALLY.text(s, name + " 1;", 1, 0);
            TALLY.text(s, "missed 1 " + name + " 1;", 1, 9);
        }
        TALLY.text(s, "abcdefgh 1;", 2, 0);
        TALLY.fine("a NAME told already", "part abcdefgh;part abcdefgi;part bbcdefgh;");
        TALLY.text("a NAME told already", "part abcdefgh;part abcdefgh;", 3, 19);
        TALLY.fine("a NAME told already", "part a;part aa;part aaa;part b;");
        for (char a = 'a'; a <= 'z'; a++) {
            for (char b = 'a'; b <= 'z'; b++) {
                String name = "" + a + b;
                boolean word = List.of(WORDS).contains(name);
                for (char c = 'a'; c <= 'z' && !word; c++) {
                    TALLY.fine("a NAME told already", "part " + name + ";part " + c + ";");
                    String other = "" + c + b;
                    if (c != a && !List.of(WORDS).contains(other)) {
                        TALLY.fine("a NAME told already", "part " + name + ";part " + other + ";");
                    }
                }
                String turned = "" + b + a;
                if (a != b && !word && !List.of(WORDS).contains(turned)) {
                    TALLY.fine("a NAME told already", "part " + name + ";part " + turned + ";");
                }
            }
        }
        // so long that the letters of a NAME that is told would show at its end
        TALLY.text(s, "part aaaaaaaa;note n of aaaaaaaaaaaaaaaa", 1, 24);
        TALLY.text(s, "part p;note a of bbbbbbbbbbbbbbbbbbbbbbbbp", 1, 17);
    }

    private static void numbersOf1To4Digits() {
        String s = "N (1 to 4 digits)";
        for (String n : new String[] {"5", "05", "005", "0005", "0", "0000"}) {
            TALLY.fine(s, "span " + n + ";");
            TALLY.fine(s, "missed " + n + ";");
        }
        TALLY.fine(s, "missed 1000;");
        TALLY.fine(s, "missed 9999;");
        for (String n : new String[] {"00005", "00000", "12345", "10000", "99999999", "00000000000000000005", "4294967301"}) {
            TALLY.text(s, "span " + n + ";", 1, 5);
            TALLY.text(s, "missed " + n + ";", 1, 7);
            TALLY.text(s, n, 1, 0);
        }
        NinetyPlayers x = Tally.of("beats 0007;span 0012;fingers 003;leap 04;ear 5;");
        int[] due = {7, 12, 3, 4, 5};
        for (int what = 2; what < 7; what++) {
            TALLY.due(s, "about(" + what + ")", x.about(what), due[what - 2]);
        }
    }

    private static void noLetterDirectlyBehindANumber() {
        String s = "no letter directly behind an N";
        for (char c = 'a'; c <= 'z'; c++) {
            TALLY.text(s, "span 5" + c, 1, 5);
            TALLY.text(s, "missed 1234" + c, 1, 7);
            TALLY.text(s, "span 5 " + c, 2, 7);
        }
        TALLY.text(s, "missed 1and 1;", 1, 7);
        TALLY.fine(s, "missed 1 and 1;");
        TALLY.fine(s, "missed 1\nand 1;");
        TALLY.text(s, "part p;note a of p at 0key 0 long 1;", 1, 22);
        TALLY.text(s, "part p;note a of p at 0 key 0long 1;", 1, 28);
        TALLY.text(s, "part p;note a of p at 0 key 0 long 1loud 1;", 1, 35);
        TALLY.fine(s, "missed (1)and(1)or not(1);");
        TALLY.fine("a word may be directly ahead of an N", "part p;note a of p at0 key0 long1 loud1;span5;");
    }

    private static void blanksPartThemOrNot() {
        String s = "blanks (32, 10) part them or not";
        TALLY.fine(s, EVERY_FORM);
        TALLY.fine(s, EVERY_FORM.replace(" ", "\n"));
        TALLY.fine(s, "  " + EVERY_FORM.replace(" ", "  \n ") + "\n\n");
        TALLY.fine(s, EVERY_FORM.replace(" ;", ";").replace("; ", ";"));
        TALLY.fine(s, "missed(key+1)*(long-2)/loud%role<beat;");
        TALLY.text(s, "sp an 5;", 2, 0);
        TALLY.text(s, "span 5 5;", 2, 7);
        TALLY.text(s, "part p q;", 2, 7);
    }

    private static void eachTokenAsLongAsCanBe() {
        String s = "each is as long as can be";
        TALLY.text(s, "partp;", 2, 0);
        TALLY.fine(s, "part tunes;part bassa;part beatsx;part parts;");
        TALLY.text(s, "part p tunes;", 2, 7);
        TALLY.text(s, "part p;notea of p", 2, 7);
        TALLY.text(s, "part p;note a ofp at 0", 2, 14);
        TALLY.text(s, "part p;note a of pat 0", 5, 17);
        TALLY.text(s, "part p;note a of p atkey", 2, 19);
        TALLY.text(s, "missed notrole;", 2, 7);
        TALLY.text(s, "missed role androle;", 2, 12);
        TALLY.text(s, "missed roleand role;", 2, 7);
        TALLY.text(s, "missed 1<=2;", 2, 9);
        TALLY.text(s, "beatspan 1;", 2, 0);
        TALLY.text(s, "beat 4;", 2, 0);
        TALLY.text(s, "missed beats;", 2, 7);
        for (String word : WORDS) {
            TALLY.fine("a NAME that begins like a word", "part " + word + "x;");
            TALLY.fine("a NAME that ends like a word", "part x" + word + ";");
        }
        TALLY.fine("a NAME that is the beginning of a word", "part bea;part miss;part finger;part double;");
        TALLY.fine("a NAME that is the beginning of a word", "part b;part p;part a;part o;");
        TALLY.fine("a NAME that is the end of a word", "part eats;part ote;part ingers;part oubled;");
    }

    private static void wordsThatStandForThemselvesAreNoNames() {
        String s = "Words that stand for themselves here are no NAMES";
        for (String word : WORDS) {
            TALLY.text(s, "part " + word + ";", 2, 5);
            TALLY.text(s, "part p;note " + word + " of p at 0 key 0 long 1;", 2, 12);
            TALLY.text(s, "part p;note a of " + word + " at 0 key 0 long 1;", 2, 17);
        }
        for (String name : new String[] {"score", "line", "name", "n", "e", "both", "one", "sum", "term", "unit", "keys", "if", "in", "hand",
            "pedal", "octave", "give"}) {
            TALLY.fine(s, "part " + name + ";note " + name + " of " + name + " at 0 key 0 long 1;");
        }
    }

    private static void beatsBounds() {
        String s = "beats (1 .. 12; 12 if not told)";
        TALLY.text(s, "beats 0;", 4, 6);
        TALLY.text(s, "beats 13;", 4, 6);
        TALLY.text(s, "beats 9999;", 4, 6);
        TALLY.text(s, "beats 0000;", 4, 6);
        for (int beats = 1; beats <= 12; beats++) {
            NinetyPlayers x = Tally.of("beats " + beats + ";");
            TALLY.due(s, "about(2)", x.about(2), beats);
            TALLY.due(s, "gaps()", x.gaps(), (1 << beats) - 1);
            TALLY.due(s, "sounds(" + (beats - 1) + ")", x.sounds(beats - 1), 0);
            TALLY.due(s, "sounds(" + beats + ")", x.sounds(beats), -1);
        }
        TALLY.due(s, "not told, about(2)", Tally.of("part p;").about(2), 12);
        NinetyPlayers x = Tally.of("beats 3;");
        Tally.tell(x, "part p;");
        TALLY.due(s, "not told any more, about(2)", x.about(2), 12);
    }

    private static void beatsOnceAndAheadOfAllOthers() {
        String s = "once, ahead of all others; beats behind another line: at the line's first word";
        String[] others = {"part p;", "missed 1;", "span 1;", "fingers 1;", "leap 1;", "ear 1;", "part p;" + NOTE};
        for (String other : others) {
            TALLY.text(s, other + "beats 4;", 2, other.length());
            TALLY.text(s, other + " \nbeats 99", 2, other.length() + 2);
            TALLY.text(s, other + "beats", 2, other.length());
            TALLY.fine(s, "beats 4;" + other);
        }
        TALLY.text("a second time: at the line's first word", "beats 4;beats 4;", 2, 8);
        TALLY.text("a second time: at the line's first word", "beats 4; beats 13", 2, 9);
        TALLY.text("a second time: at the line's first word", "beats 4;beats $", 2, 8);
        TALLY.text(s, "beats 4;part p;beats 4;", 2, 15);
    }

    private static void fourParts() {
        String s = "at most 4 PARTS; one of a sort too many: at the line's first word";
        String four = "part a;part b tune;part c bass;part d;";
        TALLY.fine(s, "part a;part b;part c;");
        TALLY.fine(s, four);
        TALLY.text(s, four + "part e;", 2, four.length());
        TALLY.text(s, four + " part e;", 2, four.length() + 1);
        TALLY.text(s, four + "part a;", 2, four.length());
        TALLY.text(s, four + "part $", 2, four.length());
        TALLY.text(s, four + "part", 2, four.length());
        TALLY.text(s, four + "part e;$", 2, four.length());
        TALLY.text(s, four + "note n of a at 0 key 0 long 1;part e;", 2, four.length() + 30);
        NinetyPlayers x = Tally.of(four);
        TALLY.due(s, "about(1)", x.about(1), 4);
        int[] roles = {0, 2, 1, 0, -1};
        for (int part = 0; part < 5; part++) {
            TALLY.due("ROLE 2 of a tune, 1 of a bass, else 0", "part(" + part + ", 0)", x.part(part, 0), roles[part]);
        }
    }

    private static String tenOf(int count) {
        StringBuilder s = new StringBuilder("part p;");
        for (int i = 0; i < count; i++) {
            s.append("note n").append((char) ('a' + i)).append(" of p at 0 key ").append(i).append(" long 1;");
        }
        return s.toString();
    }

    private static void tenNotes() {
        String s = "10 NOTES; one of a sort too many: at the line's first word";
        for (int count = 0; count <= 10; count++) {
            NinetyPlayers x = new NinetyPlayers();
            TALLY.due(s, "score() of " + count, Tally.tell(x, tenOf(count)), count);
            TALLY.due(s, "about(0) of " + count, x.about(0), count);
            TALLY.due(s, "the last one's key", x.note(count - 1, 2), count - 1);
            TALLY.due(s, "none behind", x.note(count, 2), -1);
        }
        int size = tenOf(10).length();
        TALLY.text(s, tenOf(11), 2, size);
        TALLY.text(s, tenOf(10) + "\nnote", 2, size + 1);
        TALLY.text(s, tenOf(10) + "note na of q", 2, size);
        TALLY.text(s, tenOf(10) + "note $", 2, size);
        TALLY.fine(s, tenOf(10) + "part q;span 1;");
        TALLY.text(s, tenOf(10) + "part q;note x of q", 2, size + 7);
    }

    private static void noteNumbers() {
        String head = "part p;note a of p at ";
        for (int beats = 1; beats <= 12; beats++) {
            String s = "begins at a BEAT 0 .. beats less 1";
            String told = "beats " + beats + ";" + head;
            TALLY.fine(s, told + "0 key 0 long 1;");
            TALLY.fine(s, told + (beats - 1) + " key 0 long 1;");
            TALLY.text(s, told + beats + " key 0 long 1;", 4, told.length());
            TALLY.text(s, told + "9999 key 0 long 1;", 4, told.length());
        }
        TALLY.fine("12 if not told", head + "11 key 0 long 1;");
        TALLY.text("12 if not told", head + "12 key 0 long 1;", 4, head.length());
        ends("key 0 .. 87", head + "0 key ", " long 1;", 0, 87);
        ends("long 1 .. 12", head + "0 key 0 long ", ";", 1, 12);
        ends("loud 1 .. 9", head + "0 key 0 long 1 loud ", ";", 1, 9);
        TALLY.due("loud 5 if not told", "note(0, 4)", Tally.of("part p;" + NOTE).note(0, 4), 5);
        int[] due = {0, 3, 87, 12, 9};
        NinetyPlayers x = Tally.of("beats 4;" + head + "3 key 87 long 12 loud 9;");
        for (int what = 0; what < 5; what++) {
            TALLY.due("as told, at first", "note(0, " + what + ")", x.note(0, what), due[what]);
        }
    }

    /** A number stands between head and tail: within its bounds all is fine, beyond them it can't be. */
    private static void ends(String sentence, String head, String tail, int least, int most) {
        TALLY.fine(sentence, head + least + tail);
        TALLY.fine(sentence, head + (least + 1) + tail);
        TALLY.fine(sentence, head + (most - 1) + tail);
        TALLY.fine(sentence, head + most + tail);
        TALLY.text(sentence + "; 4 a number that can't be", head + (most + 1) + tail, 4, head.length());
        TALLY.text(sentence + "; 4 a number that can't be", head + "9999" + tail, 4, head.length());
        TALLY.text(sentence + "; 4 a number that can't be", head + "256" + tail, 4, head.length());
        if (least > 0) {
            TALLY.text(sentence + "; 4 a number that can't be", head + (least - 1) + tail, 4, head.length());
        } else {
            TALLY.text(sentence, head + "-1" + tail, 2, head.length());
        }
    }

    private static void numberedAsToldEachSortByItself() {
        String s = "numbered as told, each sort by itself";
        NinetyPlayers x = Tally.of("part z bass;note z of z at 1 key 10 long 1;part a tune;note a of z at 2 key 20 long 1;"
                + "note c of a at 3 key 30 long 1;part m;note b of m at 4 key 40 long 1;");
        int[] parts = {0, 0, 1, 2};
        for (int note = 0; note < 4; note++) {
            TALLY.due(s, "note(" + note + ", 0)", x.note(note, 0), parts[note]);
            TALLY.due(s, "note(" + note + ", 1)", x.note(note, 1), note + 1);
            TALLY.due(s, "note(" + note + ", 2)", x.note(note, 2), note * 10 + 10);
        }
        int[] sets = {3, 4, 8};
        int[] roles = {1, 2, 0};
        for (int part = 0; part < 3; part++) {
            TALLY.due(s, "part(" + part + ", 0)", x.part(part, 0), roles[part]);
            TALLY.due(s, "part(" + part + ", 1)", x.part(part, 1), sets[part]);
        }
    }

    private static void onceEach() {
        String s = "once each; a second time: at the line's first word";
        String[] lines = {"missed 1;", "span 1;", "fingers 1;", "leap 1;", "ear 1;"};
        for (String line : lines) {
            TALLY.fine(s, line);
            TALLY.text(s, line + line, 2, line.length());
            TALLY.text(s, line + " " + line.split(" ")[0], 2, line.length() + 1);
            TALLY.text(s, line + line.replace("1", "$"), 2, line.length());
            for (String other : lines) {
                if (!other.equals(line)) {
                    TALLY.fine(s, line + other);
                    TALLY.text(s, line + other + line, 2, line.length() + other.length());
                }
            }
        }
        NinetyPlayers x = Tally.of("span 1;");
        TALLY.due(s, "told once more in another text", Tally.tell(x, "span 2;"), 0);
        TALLY.due(s, "about(3)", x.about(3), 2);
    }

    private static void limitsBounds() {
        ends("span (0 .. 87)", "span ", ";", 0, 87);
        ends("fingers (1 .. 5)", "fingers ", ";", 1, 5);
        ends("leap (0 .. 87)", "leap ", ";", 0, 87);
        ends("ear (0 .. 9)", "ear ", ";", 0, 9);
        NinetyPlayers least = Tally.of("beats 1;span 0;fingers 1;leap 0;ear 0;");
        NinetyPlayers most = Tally.of("beats 12;span 87;fingers 5;leap 87;ear 9;");
        int[] atLeast = {1, 0, 1, 0, 0};
        int[] atMost = {12, 87, 5, 87, 9};
        int[] untold = {12, 12, 5, 20, 2};
        for (int what = 2; what < 7; what++) {
            TALLY.due("at the least", "about(" + what + ")", least.about(what), atLeast[what - 2]);
            TALLY.due("at the most", "about(" + what + ")", most.about(what), atMost[what - 2]);
            Tally.tell(least, "");
            TALLY.due("span 12, fingers 5, leap 20, ear 2", "about(" + what + ")", least.about(what), untold[what - 2]);
            Tally.tell(least, "beats 1;span 0;fingers 1;leap 0;ear 0;");
        }
    }

    private static void unitsAre(String formula, int units) {
        TALLY.due("30 in one e", "about(13) of " + formula, Tally.of("missed " + formula + ";").about(13), units);
    }

    private static void thirtyUnits() {
        String s = "30 in one e; a unit too many: at its first TOKEN";
        for (String sign : new String[] {"+", "-", "*", "/", "%", " and ", " or "}) {
            String unit = "1" + sign;
            TALLY.fine(s, "missed " + unit.repeat(28) + "1;");
            TALLY.fine(s, "missed " + unit.repeat(29) + "1;");
            TALLY.text(s, "missed " + unit.repeat(30) + "1;", 2, 7 + 30 * unit.length());
            TALLY.text(s, "missed " + unit.repeat(31) + "1;", 2, 7 + 30 * unit.length());
            TALLY.text(s, "missed " + unit.repeat(30) + "(1);", 2, 7 + 30 * unit.length());
            TALLY.text(s, "missed " + unit.repeat(30) + " role;", 2, 7 + 30 * unit.length() + 1);
            unitsAre(unit.repeat(29) + "1", 30);
        }
        unitsAre("1", 1);
        unitsAre("(1)", 2);
        unitsAre("((key))", 3);
        unitsAre("not role", 1);
        unitsAre("1<2 and role=key or loud>long*doubled-beat", 8);
        NinetyPlayers x = Tally.of("missed 1+1;");
        Tally.tell(x, "missed " + "1+".repeat(30) + "1;");
        TALLY.due("a FAULT (all stays)", "about(13)", x.about(13), 2);
        Tally.tell(x, "missed " + "1+".repeat(29) + "1;");
        TALLY.due("in each text anew", "about(13)", x.about(13), 30);
    }

    private static void nested(int deep, String open, String close) {
        String s = "a unit ( e ), or a one behind not, within 6 others at most";
        String head = "missed ";
        for (String ahead : new String[] {"", "1 or ", "1 and ", "1<2 or ", "not 1 or ", "(1) and "}) {
            String told = head + ahead + open.repeat(deep) + "1" + close.repeat(deep) + ";";
            if (deep <= 7) {
                TALLY.fine(s, told);
            } else {
                TALLY.text(s, told, 2, head.length() + ahead.length() + 7 * open.length());
            }
        }
    }

    private static void withinSixOthers() {
        String s = "what is within 7 others: at its first TOKEN, or the not";
        for (int deep = 1; deep <= 12; deep++) {
            nested(deep, "(", ")");
            nested(deep, "not ", "");
            nested(deep, "not\n\n", "");
        }
        for (String ahead : new String[] {"1+", "1-", "1*", "1/", "1%", "1<", "1>", "1="}) {
            TALLY.fine(s, "missed " + ahead + "(((((((1)))))));");
            TALLY.text(s, "missed " + ahead + "((((((((1))))))));", 2, 7 + ahead.length() + 7);
        }
        // parentheses and nots lie within one another
        for (int nots = 0; nots <= 8; nots++) {
            String mixed = "not ".repeat(nots) + "(".repeat(8 - nots);
            int place = nots == 8 ? 7 + 7 * 4 : 7 + nots * 4 + 7 - nots;
            TALLY.text(s, "missed " + mixed + "1" + ")".repeat(8 - nots) + ";", 2, place);
            String turned = "(".repeat(8 - nots) + "not ".repeat(nots);
            place = nots == 0 ? 7 + 7 : 7 + 8 - nots + (nots - 1) * 4;
            TALLY.text(s, "missed " + turned + "1" + ")".repeat(8 - nots) + ";", 2, place);
        }
        for (int nots = 0; nots <= 7; nots++) {
            TALLY.fine(s, "missed " + "not ".repeat(nots) + "(".repeat(7 - nots) + "1" + ")".repeat(7 - nots) + ";");
            TALLY.fine(s, "missed " + "(".repeat(7 - nots) + "not ".repeat(nots) + "1" + ")".repeat(7 - nots) + ";");
        }
        // what is beside others is not within them
        TALLY.fine(s, "missed (((((((1)))))))+(((((((1)))))));");
        TALLY.fine(s, "missed not not not not not not not 1 or not not not not not not not 1;");
        TALLY.fine(s, "missed ((((((1)+(1))+(1))+(1))+(1))+(1));");
        TALLY.fine(s, "missed ((((((not 1 or not 1) or not 1)))));");
        TALLY.fine(s, "missed (((((((1)+(1)))))));");
        TALLY.text(s, "missed (((((((1)+((1)))))));", 2, 18);
        // a one behind not has its relation within it
        TALLY.fine(s, "missed not ((((((1))))))=((((((1))))));");
        TALLY.text(s, "missed not 1=(((((((1)))))));", 2, 19);
        // behind nots, a unit that is no ( e ) may stand as deep as they
        TALLY.fine(s, "missed (((((((role+key*loud)))))));");
        TALLY.text(s, "missed not not not not not not not not", 2, 35);
        TALLY.text(s, "missed ((((((((", 2, 14);
    }

    private static void unitTooManyPlaces() {
        String s = "a unit too many: at its first TOKEN";
        String ones = "1+".repeat(28);
        int at = 7 + ones.length();
        TALLY.fine(s, "missed " + ones + "(1);");
        TALLY.text(s, "missed " + ones + "1+(1);", 2, at + 3);
        TALLY.text(s, "missed " + ones + "1+1+(1);", 2, at + 4);
        TALLY.text(s, "missed " + ones + "(1+1);", 2, at + 3);
        TALLY.text(s, "missed " + ones + "(1)+1;", 2, at + 4);
        TALLY.text(s, "missed " + ones + "((1));", 2, at + 2);
        // a not is no unit: the unit behind it is the one too many
        String and = "1 and ".repeat(30);
        TALLY.text(s, "missed " + and + "not 1;", 2, 7 + and.length() + 4);
        TALLY.text(s, "missed " + and + "not not (1);", 2, 7 + and.length() + 8);
    }

    private static void endOfTheText() {
        String s = "the end: the text's length";
        String[] tokens = EVERY_FORM.split(" ");
        StringBuilder told = new StringBuilder();
        for (int i = 0; i < tokens.length; i++) {
            told.append(i == 0 ? "" : " ").append(tokens[i]);
            String text = told.toString();
            boolean whole = tokens[i].equals(";");
            TALLY.text(s, text, whole ? 0 : 2, text.length());
            TALLY.text(s, text + " ", whole ? 0 : 2, text.length() + 1);
            TALLY.text(s, text + " \n\n", whole ? 0 : 2, text.length() + 3);
        }
    }

    private static int placeOf(String[] tokens, int token) {
        int place = 0;
        for (int i = 0; i < token; i++) {
            place += tokens[i].length() + 1;
        }
        return place;
    }

    private static String with(String[] tokens, int token, String instead) {
        String[] changed = tokens.clone();
        changed[token] = instead;
        return String.join(" ", changed);
    }

    private static void tokenThatCantStandThere() {
        String[] tokens = EVERY_FORM.split(" ");
        for (int i = 0; i < tokens.length; i++) {
            int place = placeOf(tokens, i);
            for (String none : new String[] {"$", "A", "ninelette", "12345", "1a", "\t"}) {
                TALLY.text("1 no TOKEN", with(tokens, i, none), 1, place);
            }
            boolean mayBeTune = i > 1 && tokens[i - 2].equals("part");
            if (!mayBeTune) {
                TALLY.text("2 one that can't stand there", with(tokens, i, "tune"), 2, place);
            }
            TALLY.text("2 one that can't stand there", with(tokens, i, "of".equals(tokens[i]) ? "at" : "of"), 2, place);
            if (!tokens[i].equals(";")) {
                // a line may end ahead of tune, bass and loud, and a formula behind each whole one
                boolean mayEnd = mayBeTune || tokens[i].equals("loud") && tokens[i - 2].equals("long")
                        || List.of("+", "*", "<", "/", "%", ">", "=", "and", "or").contains(tokens[i]);
                if (!mayEnd) {
                    TALLY.text("2 one that can't stand there", with(tokens, i, ";"), 2, place);
                }
            }
        }
        for (String word : WORDS) {
            boolean line = List.of("beats", "part", "note", "missed", "span", "fingers", "leap", "ear").contains(word);
            TALLY.text("2 one that can't stand there", word, 2, line ? word.length() : 0);
        }
    }

    private static void nameToldAlready() {
        String s = "3 a NAME told already (of its sort)";
        TALLY.text(s, "part p;part p;", 3, 12);
        TALLY.text(s, "part p tune;part p bass;", 3, 17);
        TALLY.text(s, "part p;part q;part r;part q", 3, 26);
        TALLY.text(s, "part p;" + NOTE + "note a of p at 0 key 0 long 1;", 3, 42);
        TALLY.text(s, "part p;part q;" + NOTE + "note a of q", 3, 49);
        TALLY.fine(s, "part a;part p;" + NOTE);
        TALLY.fine(s, "part p;" + NOTE + "note p of p at 0 key 0 long 1;part a;");
        NinetyPlayers x = Tally.of("part p;" + NOTE);
        TALLY.due(s, "told in another text", Tally.tell(x, "part p;" + NOTE), 1);
        TALLY.due(s, "told in a text with a FAULT", Tally.tell(x, "part q;part q;"), -1);
        TALLY.due(s, "told in a text with a FAULT", Tally.tell(x, "part q;"), 0);
    }

    private static void nameThatNoPartHas() {
        String s = "5 a NAME that no PART has; of a PART told ahead";
        TALLY.text(s, "note a of p", 5, 10);
        TALLY.text(s, "part p;note a of q at 0 key 0 long 1;", 5, 17);
        TALLY.text(s, "part p;note a of a at 0 key 0 long 1;", 5, 17);
        TALLY.text(s, "part p;note a of pp at 0 key 0 long 1;", 5, 17);
        TALLY.text(s, "part pp;note a of p at 0 key 0 long 1;", 5, 18);
        TALLY.text(s, "note a of p at 0 key 0 long 1;part p;", 5, 10);
        TALLY.text(s, "part q;" + NOTE, 5, 17);
        NinetyPlayers x = Tally.of("part p;");
        TALLY.due(s, "told in another text", Tally.tell(x, NOTE), -1);
        TALLY.due(s, "told in another text, fault(0)", x.fault(0), 5);
    }

    private static void firstByItsPlace() {
        String s = "FAULTS, the first by its place";
        TALLY.text(s, "span 88;$", 4, 5);
        TALLY.text(s, "$;span 88", 1, 0);
        TALLY.text(s, "part p;part p;span 88;", 3, 12);
        TALLY.text(s, "span 88;part p;part p;", 4, 5);
        TALLY.text(s, "note a of q at 99 key 99", 5, 10);
        TALLY.text(s, "part p;note a of p at 12 key 88 long 13", 4, 22);
        TALLY.text(s, "part p;note a of p at 11 key 88 long 13", 4, 29);
        TALLY.text(s, "part p;note a of p at 11 key 87 long 13 loud 10", 4, 37);
        TALLY.text(s, "part p;" + NOTE + "note a of q at 99", 3, 42);
        TALLY.text(s, "span 5 $", 1, 7);
        TALLY.text(s, "span span $", 2, 5);
        TALLY.text(s, "span 88 $", 4, 5);
        TALLY.text(s, "beats 13 beats", 4, 6);
        TALLY.text(s, "span 1;span 88;", 2, 7);
    }

    private static void atOnePlaceTheLeast() {
        String s = "at one place the least";
        TALLY.text(s, "part a;part b;part c;part d;$", 1, 28);
        TALLY.text(s, "span 123456;", 1, 5);
        TALLY.text(s, "beats 1 99999", 1, 8);
        TALLY.text(s, "part p;note a of p at 99999", 1, 22);
        TALLY.text(s, "missed " + "1+".repeat(30) + "$", 1, 67);
        TALLY.text(s, "missed " + "1+".repeat(30) + "12345", 1, 67);
        TALLY.text(s, "missed " + "1+".repeat(30) + ";", 2, 67);
        TALLY.text(s, "part abcdefghi;part abcdefghi;", 1, 5);
        // the end, where a unit too many would be: it can't stand there either
        TALLY.text(s, "missed " + "1+".repeat(30), 2, 67);
    }
}
