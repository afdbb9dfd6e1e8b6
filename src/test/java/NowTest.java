import java.util.Random;

/**
 * "By what is now": each question right behind each change, answered as by an object that was asked
 * other things in between. And that no call throws, whatever its arguments are, as full as an object can be.
 */
public final class NowTest {
    private static final Tally TALLY = new Tally("NowTest");
    private static final int QUESTIONS = 34;
    private static final int CHANGES = 10;
    private static final String TEXT = "beats 4;part t tune;part b bass;part f;span 12;fingers 2;leap 15;ear 2;missed loud*10+key+long*3+doubled*7;"
            + "note a of t at 0 key 50 long 2 loud 6;note b of t at 2 key 52 long 2;note c of b at 0 key 20 long 4 loud 4;"
            + "note d of f at 0 key 32 long 2 loud 3;note e of f at 0 key 44 long 1;note f of f at 1 key 38 long 2 loud 2;"
            + "note g of t at 1 key 51 long 2 loud 3;";
    private static final String OTHER = "beats 3;part t tune;part f;fingers 1;ear 0;leap 3;"
            + "note a of t at 0 key 40 long 3 loud 2;note b of f at 1 key 45 long 2 loud 9;note c of t at 1 key 41 long 1 loud 8;"
            + "note d of f at 2 key 47 long 1 loud 1;";

    public static void main(String[] args) {
        byWhatIsNow();
        asFullAsCanBe();
        noCallThrows();
        TALLY.end();
    }

    private static NinetyPlayers stage() {
        NinetyPlayers x = Tally.of(TEXT);
        x.give(3, 2);
        x.give(4, 2);
        x.last(2, 2);
        x.image(0);
        x.give(3, 1);
        x.give(4, 0);
        x.give(0, 2);
        x.give(2, 1);
        x.give(6, 2);
        x.pedal(2);
        x.heard(0, 50, true);
        x.louder(3, 5);
        x.undo();
        return x;
    }

    /** Changes that work nothing out by themselves: what was worked out before must not answer for them. */
    private static void change(NinetyPlayers x, int which) {
        switch (which) {
            case 0:
                x.louder(2, 9);
                break;
            case 1:
                x.last(2, 1);
                break;
            case 2:
                x.shift(3, 1);
                break;
            case 3:
                x.pedal(1);
                break;
            case 4:
                x.undo();
                x.undo();
                x.undo();
                break;
            case 5:
                x.redo();
                break;
            case 6:
                x.back(0);
                break;
            case 7:
                Tally.tell(x, OTHER);
                break;
            case 8:
                x.heard(2, 38, true);
                break;
            default:
                x.last(1, 9);
                x.shift(5, -1);
                x.louder(5, 9);
                break;
        }
    }

    private static String answer(NinetyPlayers x, int question) {
        StringBuilder s = new StringBuilder();
        switch (question) {
            case 0:
                return s.append(x.held(1, 1)).append(' ').append(x.held(2, 2)).toString();
            case 1:
                return s.append(x.sounds(1)).append(' ').append(x.sounds(2)).toString();
            case 2:
                return s.append(x.clash(0)).append(' ').append(x.clash(1)).append(' ').append(x.clash(2)).toString();
            case 3:
                return s.append(x.clashes()).toString();
            case 4:
                return s.append(x.loss()).toString();
            case 5:
                return s.append(x.version(0)).append(' ').append(x.lies(0)).append(x.lies(1)).append(x.lies(2)).append(x.lies(3)).toString();
            case 6:
                return s.append(x.child(1, 3)).append(' ').append(x.lies(0)).append(x.lies(1)).append(x.lies(2)).append(x.lies(3)).toString();
            case 7:
                return s.append(x.forbids(1, 1)).append(' ').append(x.forbids(5, 2)).toString();
            case 8:
                return s.append(x.giveway(5, 1, 1)).append(' ').append(x.giveway(1, 1, 1)).toString();
            case 9:
                return s.append(x.giveway(4, 1, 0)).append(' ').append(x.giveway(4, 2, 1)).toString();
            case 10:
                return s.append(x.letin(5, 0)).append(' ').append(x.letin(4, 1)).append(' ').append(x.letin(1, 0)).toString();
            case 11:
                return s.append(x.pedals(1)).toString();
            case 12:
                return s.append(x.spread(1)).append(' ').append(x.spread(2)).toString();
            case 13:
                return s.append(x.leaps(1)).append(' ').append(x.leaps(2)).toString();
            case 14:
                return s.append(x.blur()).toString();
            case 15:
                return s.append(x.open(0)).append(' ').append(x.open(2)).toString();
            case 16:
                return s.append(x.lost()).toString();
            case 17:
                return s.append(x.gaps()).toString();
            case 18:
                return s.append(x.easier(2)).append(' ').append(x.easier(3)).append(' ').append(x.easier(0)).toString();
            case 19:
                return s.append(x.thickest()).toString();
            case 20:
                return s.append(x.busiest(1)).append(' ').append(x.busiest(2)).toString();
            case 21:
                return s.append(x.law(0)).append(' ').append(x.law(11)).toString();
            case 22:
                return s.append(x.dearest()).toString();
            default:
                return answerMore(x, question);
        }
    }

    private static String answerMore(NinetyPlayers x, int question) {
        StringBuilder s = new StringBuilder();
        switch (question) {
            case 23:
                return s.append(x.could(1)).append(' ').append(x.could(2)).toString();
            case 24:
                return s.append(x.sets(0)).toString();
            case 25:
                return s.append(x.sure(0, 0)).append(' ').append(x.sure(5, 0)).toString();
            case 26:
                return s.append(x.ask(0, 0)).append(' ').append(x.ask(1, 0)).toString();
            case 27:
                return s.append(x.differ(0)).toString();
            case 28:
                return s.append(x.part(0, 2)).append(' ').append(x.part(1, 1)).append(' ').append(x.part(1, 0)).toString();
            case 29:
                return s.append(x.note(2, 4)).append(' ').append(x.note(2, 3)).append(' ').append(x.note(3, 2)).toString();
            case 30:
                return s.append(x.note(2, 6)).append(' ').append(x.note(3, 6)).append(' ').append(x.note(3, 7)).toString();
            case 31:
                return s.append(x.about(7)).append(' ').append(x.about(8)).append(' ').append(x.about(9)).append(' ').append(x.about(15)).toString();
            case 32:
                return s.append(x.give(1, 1)).append(' ').append(x.give(5, 2)).toString();
            default:
                return s.append(x.pedals(0)).append(' ').append(x.image(1)).append(' ').append(x.about(10)).toString();
        }
    }

    private static void byWhatIsNow() {
        int[] changed = new int[QUESTIONS];
        for (int change = 0; change < CHANGES; change++) {
            for (int question = 0; question < QUESTIONS; question++) {
                NinetyPlayers x = stage();
                x.version(0);
                x.clashes();
                x.sets(0);
                change(x, change);
                String got = answer(x, question);
                NinetyPlayers y = stage();
                String before = answer(stage(), question);
                change(y, change);
                y.version(0);
                y.clashes();
                y.sets(0);
                String due = answer(y, question);
                TALLY.same("By what is now", "question " + question + " behind change " + change, got, due);
                changed[question] += due.equals(before) ? 0 : 1;
            }
        }
        for (int question = 0; question < QUESTIONS; question++) {
            TALLY.due("By what is now", "a change changes the answer to question " + question, changed[question] > 0, true);
        }
    }

    /** Ten notes, twelve beats, three boxes, thirty heard, forty acts, 1,600 bytes: all questions have their answers. */
    private static void asFullAsCanBe() {
        String[] notes = new String[10];
        for (int i = 0; i < 10; i++) {
            notes[i] = i + 2 + " " + (40 + i) + " 12 9";
        }
        NinetyPlayers x = Tally.notes("part q;part r bass;part s;part p tune;", notes);
        for (int note = 0; note < 10; note++) {
            x.give(note, 2);
        }
        TALLY.due("HELD", "held(11, 2)", x.held(11, 2), 1023);
        TALLY.due("SOUNDS", "sounds(11)", x.sounds(11), 1023);
        TALLY.due("CLASHES", "clashes()", x.clashes(), 4095 - 127);
        TALLY.due("OPEN", "open(11)", x.open(11), 1023);
        TALLY.due("LOST", "lost()", x.lost(), 0);
        TALLY.due("GAPS", "gaps()", x.gaps(), 3);
        TALLY.due("EASIER", "easier(9)", x.easier(9), 0);
        TALLY.due("EASIER", "easier(0)", x.easier(0), 1);
        TALLY.due("THICKEST", "thickest()", x.thickest(), 11);
        TALLY.due("BUSIEST", "busiest(2)", x.busiest(2), 11);
        TALLY.due("LAW", "law(0)", x.law(0), 9);
        TALLY.due("SPREAD", "spread(2)", x.spread(2), 9);
        TALLY.due("LEAPS", "leaps(2)", x.leaps(2), 0);
        TALLY.due("LOSS", "loss()", x.loss(), 0);
        TALLY.due("VERSION", "version(1)", x.version(1), 10);
        TALLY.due("CHILD", "child(5, 87)", x.child(5, 87), 0);
        TALLY.due("CHILD", "child(4, 87)", x.child(4, 87), 2 * 19);
        TALLY.due("PART", "part(3, 2)", x.part(3, 2), 1023);
        TALLY.due("PEDALS", "pedals(0)", x.pedals(0), 1);
        TALLY.due("PEDALS", "pedals(1)", x.pedals(1), 1 << 7);
        x.pedal(11);
        TALLY.due("BLUR", "blur()", x.blur(), 17);
        for (int box = 0; box < 3; box++) {
            TALLY.due("IMAGE", "image(" + box + ")", x.image(box), 10);
        }
        x.give(9, 0);
        for (int box = 0; box < 3; box++) {
            TALLY.due("DIFFER", "differ(" + box + ")", x.differ(box), 512);
        }
        TALLY.due("DEAREST", "dearest()", x.dearest(), 9);
        TALLY.due("FORBIDS", "forbids(9, 2)", x.forbids(9, 2), 0);
        TALLY.due("COULD", "could(2)", x.could(2), 512);
        TALLY.due("GIVE WAY", "giveway(9, 1, 0)", x.giveway(9, 1, 0), 4);
        TALLY.due("GIVE WAY", "giveway(9, 2, 1)", x.giveway(9, 2, 1), 15);
        TALLY.due("LET IN", "letin(9, 0)", x.letin(9, 0), -100);
        TALLY.due("MISSED", "note(9, 6)", x.note(9, 6), 19);
        TALLY.due("DOUBLED", "note(9, 7)", x.note(9, 7), 0);
        for (int i = 0; i < 30; i++) {
            x.heard(11, 40 + i, i < 10);
        }
        TALLY.due("SETS", "sets(0)", x.sets(0), 1);
        TALLY.due("SURE", "sure(9, 0)", x.sure(9, 0), 1);
        TALLY.due("ASK", "ask(0, 0)", x.ask(0, 0), 0);
        TALLY.due("BACK", "back(2)", x.back(2), 10);
    }

    private static int any(Random r, int most) {
        switch (r.nextInt(12)) {
            case 0:
                return Integer.MIN_VALUE + r.nextInt(3);
            case 1:
                return Integer.MAX_VALUE - r.nextInt(3);
            case 2:
                return r.nextInt();
            case 3:
                return -1 - r.nextInt(20);
            default:
                return r.nextInt(most + 2);
        }
    }

    private static void noCallThrows() {
        for (int run = 0; run < 400; run++) {
            Random r = new Random(run);
            NinetyPlayers x = new NinetyPlayers();
            StringBuilder text = new StringBuilder(run % 4 == 0 ? "" : "part p tune;part q;missed 7*key/(long-1)%doubled+(not role or beat>2);");
            for (int note = 0; note < run % 11 && text.length() > 0; note++) {
                text.append("note n").append((char) ('a' + note)).append(" of ").append(r.nextBoolean() ? "p" : "q").append(" at ");
                text.append(r.nextInt(12)).append(" key ").append(r.nextInt(88)).append(" long ").append(1 + r.nextInt(12)).append(";");
            }
            Tally.tell(x, text.toString());
            TALLY.due("no call throws", "run " + run, calls(x, r), 0);
        }
    }

    /** How many calls threw. */
    private static int calls(NinetyPlayers x, Random r) {
        int thrown = 0;
        for (int i = 0; i < 400; i++) {
            int call = r.nextInt(47);
            int a = any(r, r.nextBoolean() ? 10 : 88);
            int b = any(r, r.nextBoolean() ? 3 : 12);
            int c = any(r, 2);
            try {
                one(x, call, a, b, c);
            } catch (RuntimeException e) {
                thrown++;
                System.out.println("call " + call + " of " + a + ", " + b + ", " + c + " threw " + e);
            }
        }
        return thrown;
    }

    private static void one(NinetyPlayers x, int call, int a, int b, int c) {
        switch (call) {
            case 0 -> x.feed(a, b, c, a, b);
            case 1 -> x.end(a);
            case 2 -> {
                if (x.about(12) > 0) {
                    x.score();
                }
            }
            case 3 -> x.fault(a);
            case 4 -> x.note(a, b);
            case 5 -> x.part(a, b);
            case 6 -> x.held(a, b);
            case 7 -> x.sounds(a);
            case 8 -> x.clash(a);
            case 9, 10, 11 -> x.give(a, b);
            case 12 -> x.shift(a, b);
            case 13 -> x.louder(a, b);
            case 14 -> x.last(a, b);
            case 15 -> x.pedal(a);
            case 16 -> x.undo();
            case 17 -> x.redo();
            case 18 -> x.clashes();
            case 19 -> x.loss();
            case 20 -> x.version(b);
            case 21 -> x.child(b, a);
            case 22 -> x.forbids(a, b);
            case 23 -> x.giveway(a, b, c);
            case 24 -> x.letin(a, b);
            case 25 -> x.pedals(a);
            case 26 -> x.spread(b);
            case 27 -> x.leaps(b);
            case 28 -> x.blur();
            case 29 -> x.open(a);
            case 30 -> x.lost();
            case 31 -> x.gaps();
            case 32 -> x.easier(a);
            case 33 -> x.thickest();
            case 34 -> x.busiest(b);
            case 35 -> x.law(a);
            case 36 -> x.dearest();
            case 37 -> x.could(b);
            case 38 -> x.lies(a);
            case 39 -> x.heard(b, a, c == 0);
            case 40 -> x.untell(a);
            case 41 -> x.later(a);
            case 42 -> x.sets(a);
            case 43 -> x.sure(a, b);
            case 44 -> x.ask(b, a);
            case 45 -> x.image(b);
            default -> {
                x.back(b);
                x.differ(b);
                x.about(a);
            }
        }
    }
}
