import java.util.ArrayList;
import java.util.HashMap;
import java.util.List;
import java.util.Map;
import java.util.Random;
import java.util.Set;
import java.util.TreeMap;

/**
 * Compares NinetyPlayers with a model that works everything out the slow way, straight from the
 * document's words: every version, every set of pedals, every set that gives way is tried.
 */
public final class ModelTest {
    private static final int RUNS = 700;
    private static final int CALLS = 260;

    private static int wrong = 0;
    private static long calls = 0;

    public static void main(String[] args) {
        for (int run = 0; run < RUNS && wrong < 20; run++) {
            new Run(run).go();
        }
        for (int run = 0; run < 30000 && wrong < 20; run++) {
            faultRun(run);
        }
        System.out.println("ModelTest: " + calls + " calls compared, " + wrong + " wrong");
        if (wrong != 0) {
            System.exit(1);
        }
    }

    static void due(String what, long got, long want) {
        calls++;
        if (got != want) {
            wrong++;
            System.out.println(what + " answered " + got + ", due is " + want);
        }
    }

    static void feedText(NinetyPlayers x, String text) {
        for (int i = 0; i < text.length(); i += 20) {
            int[] n = new int[5];
            for (int j = 0; j < 20; j++) {
                int c = i + j < text.length() ? text.charAt(i + j) : 0;
                n[j / 4] |= c << 24 - j % 4 * 8;
            }
            x.feed(n[0], n[1], n[2], n[3], n[4]);
        }
        x.end(text.length());
    }

    private static void faultRun(int seed) {
        Random r = new Random(seed * 31L + 7);
        Texts texts = new Texts(r);
        String text = texts.spoilt(texts.score());
        if (text.length() > 1580) {
            return;
        }
        NinetyPlayers x = new NinetyPlayers();
        feedText(x, text);
        int got = x.score();
        int fault = 0;
        int place = -1;
        int notes = -1;
        int units = 0;
        try {
            Told told = new Parser(text).score();
            notes = told.notes.size();
            units = told.units;
        } catch (Fault f) {
            fault = f.kind;
            place = f.place;
        }
        due("score() of " + text, got, notes);
        due("fault(0) of " + text, x.fault(0), fault);
        due("fault(1) of " + text, x.fault(1), place);
        due("about(12)", x.about(12), 0);
        due("about(13) of " + text, x.about(13), units);
    }

    /** Random texts. */
    static final class Texts {
        final Random r;

        Texts(Random r) {
            this.r = r;
        }

        String score() {
            StringBuilder s = new StringBuilder();
            int beats = 12;
            if (r.nextInt(4) > 0) {
                beats = 1 + r.nextInt(r.nextInt(3) == 0 ? 12 : 5);
                s.append("beats ").append(beats).append(";");
            }
            int parts = r.nextInt(12) == 0 ? 0 : 1 + r.nextInt(4);
            String[] names = {"vio", "bas", "mid", "x"};
            for (int i = 0; i < parts; i++) {
                s.append("part ").append(names[i]).append(new String[] {"", " tune", " bass"}[r.nextInt(3)]).append(";");
            }
            if (r.nextInt(2) == 0) {
                s.append("missed ").append(either(3, new int[] {14})).append(";\n");
            }
            int notes = parts == 0 ? 0 : r.nextInt(12) == 0 ? 10 : r.nextInt(8);
            int low = r.nextInt(60);
            int range = 1 + r.nextInt(r.nextInt(2) == 0 ? 10 : 28);
            for (int i = 0; i < notes; i++) {
                int key = r.nextInt(8) == 0 ? r.nextInt(88) : low + r.nextInt(range);
                s.append("note ").append((char) ('a' + i)).append(" of ").append(names[r.nextInt(parts)]);
                s.append(" at ").append(r.nextInt(beats)).append(" key ").append(key);
                s.append(" long ").append(1 + r.nextInt(r.nextInt(3) == 0 ? 12 : 4));
                if (r.nextInt(2) == 0) {
                    s.append(" loud ").append(1 + r.nextInt(9));
                }
                s.append(";");
            }
            String[] tails = {"span " + r.nextInt(r.nextInt(2) == 0 ? 88 : 15) + ";", "fingers " + (1 + r.nextInt(3)) + ";",
                "leap " + r.nextInt(r.nextInt(2) == 0 ? 88 : 12) + ";", "ear " + r.nextInt(6) + " ;"};
            for (String tail : tails) {
                if (r.nextInt(4) > 0) {
                    s.append(tail);
                }
            }
            return s.toString();
        }

        String either(int deep, int[] units) {
            String s = both(deep, units);
            while (r.nextInt(6) == 0 && units[0] > 0) {
                s += " or " + both(deep, units);
            }
            return s;
        }

        String both(int deep, int[] units) {
            String s = one(deep, units);
            while (r.nextInt(6) == 0 && units[0] > 0) {
                s += " and " + one(deep, units);
            }
            return s;
        }

        String one(int deep, int[] units) {
            if (r.nextInt(8) == 0 && deep > 0) {
                return "not " + one(deep - 1, units);
            }
            String s = sum(deep, units);
            return r.nextInt(5) == 0 ? s + "<>=".charAt(r.nextInt(3)) + sum(deep, units) : s;
        }

        String sum(int deep, int[] units) {
            String s = term(deep, units);
            while (r.nextInt(2) == 0 && units[0] > 0) {
                s += "+-".charAt(r.nextInt(2)) + term(deep, units);
            }
            return s;
        }

        String term(int deep, int[] units) {
            String s = unit(deep, units);
            while (r.nextInt(3) == 0 && units[0] > 0) {
                s += "*/%".charAt(r.nextInt(3)) + unit(deep, units);
            }
            return s;
        }

        String unit(int deep, int[] units) {
            units[0]--;
            int n = r.nextInt(9);
            if (n < 6) {
                return new String[] {"role", "key", "long", "loud", "doubled", "beat"}[n];
            }
            if (n == 6 && deep > 0 && units[0] > 0) {
                return "(" + either(deep - 1, units) + ")";
            }
            return String.valueOf(r.nextInt(r.nextInt(4) == 0 ? 10000 : 20));
        }

        String spoilt(String text) {
            StringBuilder s = new StringBuilder(text);
            String[] pieces = {"beats 3;", "part q;", "part vio;", "note z of vio at 0 key 1 long 1;", "missed 1;", "missed ",
                "span", "ear 3;", "12a", "12345", "abcdefghi", "abcdefgh", ";", "(", ")", "((((((", "not ", "not not not not not not not ",
                "(not (not (not (", "<", "=", "1+1+1+1+1+1+1+1+1+1+1+1+1+1+1+1+1+1+1+1", "$", "A", "\t", "\u00e9", "0", "88", "tune", "bass",
                "\n", " ", "of", "at", "key", "beat", "role", "9", "13", "fingers 2;", "leap 5;", "or", "and 1", "%", "q", "a"};
            int changes = r.nextInt(4);
            for (int i = 0; i < changes; i++) {
                int at = r.nextInt(s.length() + 1);
                switch (r.nextInt(5)) {
                    case 0:
                        s.setLength(at);
                        break;
                    case 1:
                        s.delete(at, Math.min(s.length(), at + 1 + r.nextInt(6)));
                        break;
                    case 2:
                        int line = s.indexOf(";", at);
                        s.insert(line < 0 ? s.length() : line + 1, pieces[r.nextInt(pieces.length)]);
                        break;
                    case 3:
                        int formula = s.indexOf("missed ");
                        int put = formula < 0 ? at : Math.min(s.length(), formula + 7 + r.nextInt(12));
                        s.insert(put, pieces[r.nextInt(pieces.length)]);
                        break;
                    default:
                        s.insert(at, pieces[r.nextInt(pieces.length)]);
                        break;
                }
            }
            return s.toString();
        }
    }

    static final class Fault extends Exception {
        private static final long serialVersionUID = 1L;
        final int kind;
        final int place;

        Fault(int kind, int place) {
            this.kind = kind;
            this.place = place;
        }
    }

    static final class Token {
        final String text;
        final int place;

        Token(String text, int place) {
            this.text = text;
            this.place = place;
        }
    }

    static final class ToldNote {
        int part;
        int begin;
        int key;
        int length;
        int loud = 5;
    }

    interface Expression {
        int value(Map<String, Integer> facts);
    }

    static final class Told {
        int beats = 12;
        final List<Integer> roles = new ArrayList<>();
        final List<ToldNote> notes = new ArrayList<>();
        final Map<String, Integer> limits = new HashMap<>(Map.of("span", 12, "fingers", 5, "leap", 20, "ear", 2));
        Expression missed;
        int units;
    }

    /** All tokens first, then the lines; a fault is thrown. A token that is none has a text that begins with "?". */
    static final class Parser {
        static final Set<String> OWN = Set.of("beats", "part", "tune", "bass", "note", "of", "at", "key", "long", "loud",
                "missed", "span", "fingers", "leap", "ear", "or", "and", "not", "role", "doubled", "beat");
        static final Map<String, int[]> LIMITS = Map.of("span", new int[] {0, 87}, "fingers", new int[] {1, 5},
                "leap", new int[] {0, 87}, "ear", new int[] {0, 9});
        final List<Token> tokens = new ArrayList<>();
        int at;
        final Told told = new Told();
        final List<String> parts = new ArrayList<>();
        final List<String> notes = new ArrayList<>();

        Parser(String text) {
            int i = 0;
            while (i < text.length()) {
                String rest = text.substring(i);
                String run = rest.replaceFirst("(?s)^([a-z]+|[0-9]+|.).*$", "$1");
                boolean letterBehind = rest.matches("(?s)^[0-9]+[a-z].*");
                if (run.equals(" ") || run.equals("\n")) {
                    i++;
                    continue;
                }
                boolean good = run.matches("[a-z]{1,8}|[0-9]{1,4}|[;()<>=+*/%-]") && !letterBehind;
                tokens.add(new Token(good ? run : "?" + run, i));
                i += run.length();
            }
            tokens.add(new Token("", text.length()));
        }

        Told score() throws Fault {
            List<String> lines = new ArrayList<>();
            while (!peek().isEmpty()) {
                String word = peek();
                boolean may = switch (word) {
                    case "beats" -> lines.isEmpty();
                    case "part" -> parts.size() < 4;
                    case "note" -> notes.size() < 10;
                    case "missed", "span", "fingers", "leap", "ear" -> !lines.contains(word);
                    default -> false;
                };
                must(may, 2);
                lines.add(word);
                at++;
                if (word.equals("beats")) {
                    told.beats = number(1, 12);
                } else if (word.equals("part")) {
                    parts.add(fresh(parts));
                    told.roles.add(peek().equals("tune") ? 2 : peek().equals("bass") ? 1 : 0);
                    at += told.roles.get(told.roles.size() - 1) > 0 ? 1 : 0;
                } else if (word.equals("note")) {
                    readNote();
                } else if (word.equals("missed")) {
                    told.missed = either(0);
                } else {
                    told.limits.put(word, number(LIMITS.get(word)[0], LIMITS.get(word)[1]));
                }
                take(";");
            }
            return told;
        }

        void readNote() throws Fault {
            ToldNote note = new ToldNote();
            notes.add(fresh(notes));
            take("of");
            must(isName(), 2);
            must(parts.contains(peek()), 5);
            note.part = parts.indexOf(peek());
            at++;
            take("at");
            note.begin = number(0, told.beats - 1);
            take("key");
            note.key = number(0, 87);
            take("long");
            note.length = number(1, 12);
            if (peek().equals("loud")) {
                at++;
                note.loud = number(1, 9);
            }
            told.notes.add(note);
        }

        String peek() {
            return tokens.get(at).text;
        }

        boolean isName() {
            return peek().matches("[a-z]+") && !OWN.contains(peek());
        }

        void must(boolean is, int kind) throws Fault {
            if (peek().startsWith("?")) {
                throw new Fault(1, tokens.get(at).place);
            }
            if (!is) {
                throw new Fault(kind, tokens.get(at).place);
            }
        }

        void take(String text) throws Fault {
            must(peek().equals(text), 2);
            at++;
        }

        String fresh(List<String> names) throws Fault {
            must(isName(), 2);
            must(!names.contains(peek()), 3);
            at++;
            return tokens.get(at - 1).text;
        }

        int number(int least, int most) throws Fault {
            must(peek().matches("[0-9]+"), 2);
            int n = Integer.parseInt(peek());
            must(n >= least && n <= most, 4);
            at++;
            return n;
        }

        Expression either(int within) throws Fault {
            Expression left = both(within);
            while (peek().equals("or")) {
                at++;
                Expression a = left;
                Expression b = both(within);
                left = f -> a.value(f) != 0 | b.value(f) != 0 ? 1 : 0;
            }
            return left;
        }

        Expression both(int within) throws Fault {
            Expression left = one(within);
            while (peek().equals("and")) {
                at++;
                Expression a = left;
                Expression b = one(within);
                left = f -> a.value(f) != 0 & b.value(f) != 0 ? 1 : 0;
            }
            return left;
        }

        Expression one(int within) throws Fault {
            if (peek().equals("not")) {
                must(within <= 6, 2);
                at++;
                Expression a = one(within + 1);
                return f -> a.value(f) == 0 ? 1 : 0;
            }
            Expression a = sum(within);
            String relation = peek();
            if (!relation.matches("[<>=]")) {
                return a;
            }
            at++;
            Expression b = sum(within);
            return f -> {
                int order = Integer.compare(a.value(f), b.value(f));
                return order < 0 && relation.equals("<") || order > 0 && relation.equals(">")
                        || order == 0 && relation.equals("=") ? 1 : 0;
            };
        }

        Expression sum(int within) throws Fault {
            Expression left = term(within);
            while (peek().matches("[+-]")) {
                int sign = peek().equals("+") ? 1 : -1;
                at++;
                Expression a = left;
                Expression b = term(within);
                left = f -> a.value(f) + sign * b.value(f);
            }
            return left;
        }

        Expression term(int within) throws Fault {
            Expression left = unit(within);
            while (peek().matches("[*/%]")) {
                String sign = peek();
                at++;
                Expression a = left;
                Expression b = unit(within);
                left = f -> {
                    int m = a.value(f);
                    int n = b.value(f);
                    return sign.equals("*") ? m * n : n == 0 ? 0 : sign.equals("/") ? m / n : m % n;
                };
            }
            return left;
        }

        Expression unit(int within) throws Fault {
            String word = peek();
            boolean number = word.matches("[0-9]+");
            must(number || word.matches("role|key|long|loud|doubled|beat|\\("), 2);
            must(!word.equals("(") || within <= 6, 2);
            must(told.units < 30, 2);
            told.units++;
            at++;
            if (word.equals("(")) {
                Expression e = either(within + 1);
                take(")");
                return e;
            }
            if (number) {
                int n = Integer.parseInt(word);
                return f -> n;
            }
            return f -> f.get(word);
        }
    }

    /** What acts change, copied whole ahead of every act. */
    static final class State {
        int[] hand;
        int[] key;
        int[] length;
        int[] loud;
        boolean[] pedal = new boolean[12];

        State(Told told) {
            int n = told.notes.size();
            hand = new int[n];
            key = told.notes.stream().mapToInt(t -> t.key).toArray();
            length = told.notes.stream().mapToInt(t -> t.length).toArray();
            loud = told.notes.stream().mapToInt(t -> t.loud).toArray();
        }

        State(State s) {
            hand = s.hand.clone();
            key = s.key.clone();
            length = s.length.clone();
            loud = s.loud.clone();
            pedal = s.pedal.clone();
        }
    }

    record Heard(int beat, int key, boolean is, int told, int[] untold) {
    }

    static final class Model {
        Told told = new Told();
        State now = new State(told);
        List<State> undos = new ArrayList<>();
        List<State> redos = new ArrayList<>();
        State[] boxes = new State[3];
        List<Integer> lying = new ArrayList<>();
        List<Heard> heard = new ArrayList<>();
        int time;

        void take(Told t) {
            told = t;
            now = new State(t);
            undos.clear();
            redos.clear();
            boxes = new State[3];
            lying.clear();
            heard.clear();
        }

        int notes() {
            return told.notes.size();
        }

        boolean note(int n) {
            return n >= 0 && n < notes();
        }

        boolean beat(int b) {
            return b >= 0 && b < told.beats;
        }

        int role(int n) {
            return told.roles.get(told.notes.get(n).part);
        }

        State act() {
            undos.add(new State(now));
            if (undos.size() > 40) {
                undos.remove(0);
            }
            redos.clear();
            return now;
        }

        boolean isHeld(State s, int n, int b) {
            int begin = told.notes.get(n).begin;
            if (s.hand[n] == 0 || b < begin || b >= begin + s.length[n]) {
                return false;
            }
            for (int p = begin + 1; p <= b; p++) {
                if (s.pedal[p]) {
                    return false;
                }
            }
            return true;
        }

        boolean isSounding(State s, int n, int b) {
            return b >= 0 && (isHeld(s, n, b) || s.pedal[b] && isSounding(s, n, b - 1));
        }

        List<Integer> keysHeld(State s, int hand, int b) {
            List<Integer> keys = new ArrayList<>();
            for (int n = 0; n < notes() && b >= 0; n++) {
                if (s.hand[n] == hand && isHeld(s, n, b)) {
                    keys.add(s.key[n]);
                }
            }
            keys.sort(null);
            return keys;
        }

        int clash(State s, int b, int span, int fingers) {
            int c = 0;
            List<List<Integer>> both = new ArrayList<>();
            for (int hand = 1; hand <= 2; hand++) {
                List<Integer> here = keysHeld(s, hand, b);
                List<Integer> ahead = keysHeld(s, hand, b - 1);
                both.add(here);
                if (here.size() > fingers) {
                    c |= 1;
                }
                for (int x : here) {
                    for (int y : here) {
                        c |= x - y > span ? 2 : 0;
                    }
                }
                if (!here.isEmpty() && !ahead.isEmpty() && Math.abs(here.get(0) - ahead.get(0)) > told.limits.get("leap")) {
                    c |= 16;
                }
            }
            for (int l : both.get(0)) {
                for (int r : both.get(1)) {
                    c |= l < r ? 0 : 4;
                }
            }
            List<Integer> all = new ArrayList<>(both.get(0));
            all.addAll(both.get(1));
            if (all.stream().distinct().count() < all.size()) {
                c |= 8;
            }
            return c;
        }

        int clash(State s, int b) {
            return clash(s, b, told.limits.get("span"), told.limits.get("fingers"));
        }

        int clashes(State s, int span, int fingers) {
            int set = 0;
            for (int b = 0; b < told.beats; b++) {
                set |= clash(s, b, span, fingers) != 0 ? 1 << b : 0;
            }
            return set;
        }

        int clashes(State s) {
            return clashes(s, told.limits.get("span"), told.limits.get("fingers"));
        }

        int doubles(int n) {
            int set = 0;
            for (int o = 0; o < notes(); o++) {
                boolean same = told.notes.get(o).begin == told.notes.get(n).begin;
                if (o != n && same && Math.abs(now.key[o] - now.key[n]) % 12 == 0) {
                    set |= 1 << o;
                }
            }
            return set;
        }

        int missed(int n) {
            int doubled = Integer.bitCount(doubles(n));
            int v = now.loud[n] + role(n) * 5 - doubled;
            if (told.missed != null) {
                v = told.missed.value(Map.of("role", role(n), "key", now.key[n], "long", now.length[n], "loud", now.loud[n],
                        "doubled", doubled, "beat", told.notes.get(n).begin));
            }
            return v < 0 ? 0 : v > 999 ? 999 : v;
        }

        int given(State s) {
            int set = 0;
            for (int n = 0; n < notes(); n++) {
                set |= s.hand[n] != 0 ? 1 << n : 0;
            }
            return set;
        }

        /** Every version in the order of the document, the first of the least kept. */
        int version(int span, int fingers) {
            int n = notes();
            int all = 1;
            for (int i = 0; i < n; i++) {
                all *= 3;
            }
            int least = Integer.MAX_VALUE;
            int[] missed = new int[n];
            for (int i = 0; i < n; i++) {
                missed[i] = missed(i);
            }
            int[] best = null;
            for (int v = 0; v < all; v++) {
                State s = new State(now);
                int rest = v;
                int loss = 0;
                for (int i = n - 1; i >= 0; i--) {
                    s.hand[i] = new int[] {1, 2, 0}[rest % 3];
                    loss += s.hand[i] == 0 ? missed[i] : 0;
                    rest /= 3;
                }
                if (loss < least && clashes(s, span, fingers) == 0) {
                    least = loss;
                    best = s.hand;
                }
            }
            lying.clear();
            for (int h : best) {
                lying.add(h);
            }
            return least;
        }

        int forbids(int note, int hand) {
            State s = new State(now);
            s.hand[note] = hand;
            int c = 0;
            for (int b = 0; b < told.beats; b++) {
                c |= clash(s, b) & ~clash(now, b);
            }
            return c;
        }

        int giveway(int note, int hand) {
            TreeMap<Long, Integer> ways = new TreeMap<>();
            for (int set = 0; set < 1 << notes(); set++) {
                if ((set & given(now)) != set) {
                    continue;
                }
                State s = new State(now);
                s.hand[note] = hand;
                long loss = 0;
                for (int n = 0; n < notes(); n++) {
                    if ((set >> n & 1) != 0) {
                        s.hand[n] = 0;
                        loss += missed(n);
                    }
                }
                if (clashes(s) == 0) {
                    ways.put((Integer.bitCount(set) * 100000L + loss) * 100000L + set, set);
                }
            }
            return ways.isEmpty() ? -1 : ways.firstEntry().getValue();
        }

        int[] letin(int note) {
            int[] order = {0, 1, -1, 2, -2, 3, -3, 4, -4, 5, -5, 6, -6, 7, -7};
            for (int o : order) {
                for (int hand = 1; hand <= 2; hand++) {
                    State s = new State(now);
                    s.hand[note] = hand;
                    s.key[note] += 12 * o;
                    if (s.key[note] >= 0 && s.key[note] <= 87 && clashes(s) == 0) {
                        return new int[] {o, hand};
                    }
                }
            }
            return new int[] {-100, -100};
        }

        int pedals() {
            int best = -1;
            for (int set = 0; set < 1 << told.beats; set++) {
                State s = new State(now);
                for (int b = 0; b < 12; b++) {
                    s.pedal[b] = (set >> b & 1) != 0;
                }
                if ((best < 0 || Integer.bitCount(set) < Integer.bitCount(best)) && clashes(s) == 0) {
                    best = set;
                }
            }
            return best;
        }

        int sounding(int b) {
            int set = 0;
            for (int n = 0; n < notes(); n++) {
                set |= isSounding(now, n, b) ? 1 << n : 0;
            }
            return set;
        }

        int open(int b) {
            int set = 0;
            for (int n = 0; n < notes(); n++) {
                boolean open = isSounding(now, n, b);
                for (int o = 0; o < notes(); o++) {
                    open &= !(isSounding(now, o, b) && now.loud[o] > now.loud[n] + told.limits.get("ear"));
                }
                set |= open ? 1 << n : 0;
            }
            return set;
        }

        int blur() {
            int twos = 0;
            for (int b = 0; b < told.beats; b++) {
                for (int n = 0; n < notes(); n++) {
                    for (int o = n + 1; o < notes(); o++) {
                        int apart = Math.abs(now.key[n] - now.key[o]);
                        boolean both = isSounding(now, n, b) && isSounding(now, o, b);
                        boolean held = isHeld(now, n, b) && isHeld(now, o, b);
                        twos += both && !held && apart >= 1 && apart <= 2 ? 1 : 0;
                    }
                }
            }
            return twos;
        }

        int fullest(boolean left, boolean right) {
            int best = 0;
            int most = -1;
            for (int b = 0; b < told.beats; b++) {
                int size = (left ? keysHeld(now, 1, b).size() : 0) + (right ? keysHeld(now, 2, b).size() : 0);
                if (size > most) {
                    most = size;
                    best = b;
                }
            }
            return best;
        }

        List<Integer> sets(int k) {
            List<Integer> sets = new ArrayList<>();
            for (int set = 0; set < 1 << notes(); set++) {
                boolean so = true;
                for (Heard h : heard) {
                    boolean counts = h.told <= k && !(h.untold[0] >= 0 && h.untold[0] <= k);
                    boolean sounded = false;
                    for (int n = 0; n < notes(); n++) {
                        ToldNote t = told.notes.get(n);
                        sounded |= (set >> n & 1) != 0 && t.key == h.key && h.beat >= t.begin && h.beat < t.begin + t.length;
                    }
                    so &= !counts || sounded == h.is;
                }
                if (so) {
                    sets.add(set);
                }
            }
            return sets;
        }

        int with(List<Integer> sets, int note) {
            return (int) sets.stream().filter(s -> (s >> note & 1) != 0).count();
        }

        int[] ask(int k) {
            List<Integer> sets = sets(k);
            int[] best = {-1, -1};
            for (int n = 0; n < notes() && !sets.isEmpty(); n++) {
                int w = with(sets, n);
                int most = Math.max(w, sets.size() - w);
                if (best[0] < 0 || most < best[1]) {
                    best = new int[] {n, most};
                }
            }
            return best;
        }
    }

    /** One object and one model, the same calls on both. */
    static final class Run {
        final int number;
        final Random r;
        final Texts texts;
        final NinetyPlayers x = new NinetyPlayers();
        final Model m = new Model();

        Run(int number) {
            this.number = number;
            r = new Random(number * 7919L + 13);
            texts = new Texts(r);
        }

        void go() {
            if (r.nextInt(10) > 0) {
                newScore();
            }
            boolean manyActs = r.nextInt(6) == 0;
            for (int i = 0; i < CALLS && wrong < 20; i++) {
                if (!manyActs && r.nextInt(120) == 0) {
                    newScore();
                }
                if (r.nextInt(3) == 0 || manyActs && r.nextInt(3) > 0) {
                    act();
                } else {
                    query(r.nextInt(36));
                }
            }
        }

        String text = "";

        void check(String call, long got, long want) {
            due("run " + number + " (" + text + "): " + call, got, want);
        }

        void newScore() {
            String fresh = texts.score();
            feedText(x, fresh);
            try {
                m.take(new Parser(fresh).score());
                text = fresh;
                check("score", x.score(), m.notes());
            } catch (Fault f) {
                check("score", x.score(), -1);
            }
        }

        int anyNote() {
            return r.nextInt(15) == 0 ? r.nextInt(14) - 2 : r.nextInt(Math.max(1, m.notes()));
        }

        int anyBeat() {
            return r.nextInt(15) == 0 ? r.nextInt(15) - 1 : r.nextInt(m.told.beats);
        }

        int anyHand() {
            return r.nextInt(12) == 0 ? r.nextInt(5) - 1 : 1 + r.nextInt(2);
        }

        void act() {
            int n = anyNote();
            switch (r.nextInt(14)) {
                case 0, 1, 2, 3, 4: {
                    int hand = r.nextInt(5) == 0 ? r.nextInt(5) - 1 : 1 + r.nextInt(2);
                    int want = -1;
                    if (m.note(n) && hand >= 0 && hand <= 2 && m.now.hand[n] != hand) {
                        m.act().hand[n] = hand;
                        want = m.clashes(m.now);
                    }
                    check("give " + n + " " + hand, x.give(n, hand), want);
                    break;
                }
                case 5: {
                    int o = r.nextInt(4) == 0 ? r.nextInt(19) - 9 : r.nextInt(5) - 2;
                    int want = -1;
                    int key = m.note(n) ? m.now.key[n] + 12 * o : -1;
                    if (o != 0 && o >= -7 && o <= 7 && key >= 0 && key < 88) {
                        m.act().key[n] = key;
                        want = key;
                    }
                    check("shift " + n + " " + o, x.shift(n, o), want);
                    break;
                }
                case 6: {
                    int loud = r.nextInt(11);
                    int want = -1;
                    if (m.note(n) && loud >= 1 && loud <= 9 && m.now.loud[n] != loud) {
                        want = m.now.loud[n];
                        m.act().loud[n] = loud;
                    }
                    check("louder " + n + " " + loud, x.louder(n, loud), want);
                    break;
                }
                case 7: {
                    int length = r.nextInt(r.nextInt(2) == 0 ? 14 : 4);
                    int want = -1;
                    if (m.note(n) && length >= 1 && length <= 12 && m.now.length[n] != length) {
                        want = m.now.length[n];
                        m.act().length[n] = length;
                    }
                    check("last " + n + " " + length, x.last(n, length), want);
                    break;
                }
                case 8: {
                    int b = anyBeat();
                    int want = -1;
                    if (m.beat(b)) {
                        m.act().pedal[b] ^= true;
                        want = pedalBits();
                    }
                    check("pedal " + b, x.pedal(b), want);
                    break;
                }
                case 9: {
                    int times = r.nextInt(15) == 0 ? 45 : 1;
                    for (int i = 0; i < times; i++) {
                        boolean can = !m.undos.isEmpty();
                        if (can) {
                            m.redos.add(m.now);
                            m.now = m.undos.remove(m.undos.size() - 1);
                        }
                        check("undo", x.undo() ? 1 : 0, can ? 1 : 0);
                    }
                    break;
                }
                case 10: {
                    int times = r.nextInt(4) == 0 ? 42 : 1;
                    for (int i = 0; i < times; i++) {
                        boolean can = !m.redos.isEmpty();
                        if (can) {
                            m.undos.add(m.now);
                            m.now = m.redos.remove(m.redos.size() - 1);
                        }
                        check("redo", x.redo() ? 1 : 0, can ? 1 : 0);
                    }
                    break;
                }
                case 11: {
                    int box = r.nextInt(5) - 1;
                    boolean can = box >= 0 && box < 3;
                    if (can) {
                        m.boxes[box] = new State(m.now);
                    }
                    check("image " + box, x.image(box), can ? Integer.bitCount(m.given(m.now)) : -1);
                    break;
                }
                case 12: {
                    int box = r.nextInt(5) - 1;
                    boolean can = box >= 0 && box < 3 && m.boxes[box] != null && r.nextInt(2) == 0;
                    if (can) {
                        m.now = new State(m.boxes[box]);
                        m.undos.clear();
                        m.redos.clear();
                        check("back " + box, x.back(box), Integer.bitCount(m.given(m.now)));
                    } else if (box < 0 || box > 2 || m.boxes[box] == null) {
                        check("back " + box, x.back(box), -1);
                    }
                    break;
                }
                default:
                    hear();
                    break;
            }
        }

        int pedalBits() {
            int set = 0;
            for (int b = 0; b < 12; b++) {
                set |= m.now.pedal[b] ? 1 << b : 0;
            }
            return set;
        }

        void hear() {
            switch (r.nextInt(4)) {
                case 0: {
                    int by = r.nextInt(5) == 0 ? r.nextInt(1100) - 50 : r.nextInt(3);
                    boolean can = by >= 0 && by <= 1000 && m.time + by <= 100000;
                    m.time += can ? by : 0;
                    check("later " + by, x.later(by), can ? m.time : -1);
                    break;
                }
                case 1: {
                    int h = r.nextInt(m.heard.size() + 2) - 1;
                    boolean can = h >= 0 && h < m.heard.size() && m.heard.get(h).untold[0] < 0;
                    if (can) {
                        m.heard.get(h).untold[0] = m.time;
                    }
                    check("untell " + h, x.untell(h) ? 1 : 0, can ? 1 : 0);
                    break;
                }
                default: {
                    int b = anyBeat();
                    int key = r.nextInt(20) == 0 || m.notes() == 0 ? r.nextInt(92) - 2 : m.told.notes.get(r.nextInt(m.notes())).key;
                    boolean is = r.nextInt(3) == 0;
                    int times = r.nextInt(40) == 0 ? 31 : 1;
                    for (int i = 0; i < times; i++) {
                        boolean can = m.beat(b) && key >= 0 && key < 88 && m.heard.size() < 30;
                        if (can) {
                            m.heard.add(new Heard(b, key, is, m.time, new int[] {-1}));
                        }
                        check("heard " + b + " " + key + " " + is, x.heard(b, key, is), can ? m.heard.size() - 1 : -1);
                    }
                    break;
                }
            }
        }

        void query(int which) {
            if (which < 12) {
                queryState(which);
            } else if (which < 24) {
                queryWays(which);
            } else {
                queryRest(which);
            }
        }

        void queryState(int which) {
            int n = anyNote();
            int b = anyBeat();
            int hand = anyHand();
            switch (which) {
                case 0, 1: {
                    for (int what = -1; what <= 8; what++) {
                        int want = -1;
                        if (m.note(n) && what >= 0 && what <= 7) {
                            want = new int[] {m.told.notes.get(n).part, m.told.notes.get(n).begin, m.now.key[n], m.now.length[n],
                                m.now.loud[n], m.now.hand[n], m.missed(n), m.doubles(n)}[what];
                        }
                        check("note " + n + " " + what, x.note(n, what), want);
                    }
                    break;
                }
                case 2: {
                    int part = r.nextInt(6) - 1;
                    boolean can = part >= 0 && part < m.told.roles.size();
                    int set = 0;
                    for (int i = 0; i < m.notes(); i++) {
                        set |= m.told.notes.get(i).part == part ? 1 << i : 0;
                    }
                    check("part 0", x.part(part, 0), can ? m.told.roles.get(part) : -1);
                    check("part 1", x.part(part, 1), can ? set : -1);
                    check("part 2", x.part(part, 2), can ? set & m.given(m.now) : -1);
                    check("part 3", x.part(part, 3), -1);
                    check("part -1", x.part(part, -1), -1);
                    break;
                }
                case 3, 4: {
                    int want = m.beat(b) && hand >= 1 && hand <= 2 ? 0 : -1;
                    for (int i = 0; i < m.notes() && want >= 0; i++) {
                        want |= m.now.hand[i] == hand && m.isHeld(m.now, i, b) ? 1 << i : 0;
                    }
                    check("held " + b + " " + hand, x.held(b, hand), want);
                    break;
                }
                case 5, 6:
                    check("sounds " + b, x.sounds(b), m.beat(b) ? m.sounding(b) : -1);
                    break;
                case 7, 8:
                    check("clash " + b, x.clash(b), m.beat(b) ? m.clash(m.now, b) : -1);
                    break;
                case 9:
                    check("clashes", x.clashes(), m.clashes(m.now));
                    break;
                case 10: {
                    int loss = 0;
                    for (int i = 0; i < m.notes(); i++) {
                        loss += m.now.hand[i] == 0 ? m.missed(i) : 0;
                    }
                    check("loss", x.loss(), loss);
                    break;
                }
                default: {
                    int i = r.nextInt(13) - 1;
                    check("lies " + i, x.lies(i), i >= 0 && i < m.lying.size() ? m.lying.get(i) : -1);
                    break;
                }
            }
        }

        void lyingChecks() {
            for (int i = -1; i <= 10; i++) {
                check("lies " + i, x.lies(i), i >= 0 && i < m.lying.size() ? m.lying.get(i) : -1);
            }
        }

        void queryWays(int which) {
            int n = anyNote();
            int hand = anyHand();
            boolean free = m.note(n) && m.now.hand[n] == 0;
            boolean can = free && hand >= 1 && hand <= 2;
            switch (which) {
                case 12: {
                    if (m.notes() > 7 && r.nextInt(4) > 0) {
                        return;
                    }
                    int want = m.version(m.told.limits.get("span"), m.told.limits.get("fingers"));
                    int played = (int) m.lying.stream().filter(h -> h != 0).count();
                    check("version 0", x.version(0), want);
                    lyingChecks();
                    check("version 1", x.version(1), played);
                    check("version 2", x.version(2), -1);
                    lyingChecks();
                    break;
                }
                case 13: {
                    if (m.notes() > 7 && r.nextInt(4) > 0) {
                        return;
                    }
                    int fingers = r.nextInt(8) == 0 ? r.nextInt(8) - 1 : 1 + r.nextInt(5);
                    int span = r.nextInt(8) == 0 ? r.nextInt(92) - 2 : r.nextInt(20);
                    boolean may = fingers >= 1 && fingers <= 5 && span >= 0 && span <= 87;
                    m.lying.clear();
                    check("child " + fingers + " " + span, x.child(fingers, span), may ? m.version(span, fingers) : -1);
                    lyingChecks();
                    break;
                }
                case 14, 15:
                    check("forbids " + n + " " + hand, x.forbids(n, hand), can ? m.forbids(n, hand) : -1);
                    break;
                case 16, 17: {
                    int set = can ? m.giveway(n, hand) : -1;
                    check("giveway 0", x.giveway(n, hand, 0), set < 0 ? -1 : Integer.bitCount(set));
                    check("giveway 1", x.giveway(n, hand, 1), set);
                    check("giveway 2", x.giveway(n, hand, 2), -1);
                    break;
                }
                case 18, 19: {
                    int[] want = free ? m.letin(n) : new int[] {-100, -100};
                    check("letin 0", x.letin(n, 0), want[0]);
                    check("letin 1", x.letin(n, 1), want[1]);
                    check("letin 2", x.letin(n, 2), -100);
                    break;
                }
                case 20: {
                    int set = m.pedals();
                    check("pedals 0", x.pedals(0), set < 0 ? -1 : Integer.bitCount(set));
                    check("pedals 1", x.pedals(1), set);
                    check("pedals 2", x.pedals(2), -1);
                    break;
                }
                case 21: {
                    int want = hand >= 1 && hand <= 2 ? 0 : -1;
                    for (int i = 0; i < m.notes() && want >= 0; i++) {
                        want |= m.now.hand[i] == 0 && m.forbids(i, hand) == 0 ? 1 << i : 0;
                    }
                    check("could " + hand, x.could(hand), want);
                    break;
                }
                default: {
                    int want = -1;
                    if (m.note(n) && m.now.hand[n] != 0) {
                        State s = new State(m.now);
                        s.hand[n] = 0;
                        want = Integer.bitCount(m.clashes(m.now)) - Integer.bitCount(m.clashes(s));
                    }
                    check("easier " + n, x.easier(n), want);
                    break;
                }
            }
        }

        void queryRest(int which) {
            int n = anyNote();
            int hand = anyHand();
            boolean isHand = hand >= 1 && hand <= 2;
            int k = r.nextInt(4) == 0 ? r.nextInt(5) - 2 : m.time - r.nextInt(3) + r.nextInt(2);
            switch (which) {
                case 24: {
                    int spread = 0;
                    int leaps = 0;
                    for (int b = 0; b < m.told.beats; b++) {
                        List<Integer> here = m.keysHeld(m.now, hand, b);
                        List<Integer> ahead = m.keysHeld(m.now, hand, b - 1);
                        spread = Math.max(spread, here.isEmpty() ? 0 : here.get(here.size() - 1) - here.get(0));
                        leaps = Math.max(leaps, here.isEmpty() || ahead.isEmpty() ? 0 : Math.abs(here.get(0) - ahead.get(0)));
                    }
                    if (r.nextBoolean()) {
                        check("spread " + hand, x.spread(hand), isHand ? spread : -1);
                    }
                    check("leaps " + hand, x.leaps(hand), isHand ? leaps : -1);
                    break;
                }
                case 25:
                    check("blur", x.blur(), m.blur());
                    break;
                case 26: {
                    int b = anyBeat();
                    check("open " + b, x.open(b), m.beat(b) ? m.open(b) : -1);
                    break;
                }
                case 27: {
                    int lost = 0;
                    for (int i = 0; i < m.notes(); i++) {
                        boolean open = (m.open(m.told.notes.get(i).begin) >> i & 1) != 0;
                        lost |= m.role(i) == 2 && m.now.hand[i] != 0 && !open ? 1 << i : 0;
                    }
                    check("lost", x.lost(), lost);
                    break;
                }
                case 28: {
                    int gaps = 0;
                    for (int b = 0; b < m.told.beats; b++) {
                        boolean gap = true;
                        for (int i = 0; i < m.notes(); i++) {
                            gap &= m.role(i) != 2 || !m.isSounding(m.now, i, b);
                        }
                        gaps |= gap ? 1 << b : 0;
                    }
                    check("gaps", x.gaps(), gaps);
                    break;
                }
                case 29:
                    if (r.nextBoolean()) {
                        check("thickest", x.thickest(), m.fullest(true, true));
                    }
                    check("busiest " + hand, x.busiest(hand), isHand ? m.fullest(hand == 1, hand == 2) : -1);
                    break;
                case 30: {
                    int span = r.nextInt(5) == 0 ? r.nextInt(92) - 2 : r.nextInt(20);
                    int want = span < 0 || span > 87 ? -1 : Integer.bitCount(m.clashes(m.now, span, m.told.limits.get("fingers")));
                    check("law " + span, x.law(span), want);
                    break;
                }
                case 31: {
                    int best = -1;
                    for (int i = 0; i < m.notes(); i++) {
                        best = m.now.hand[i] == 0 && (best < 0 || m.missed(i) > m.missed(best)) ? i : best;
                    }
                    check("dearest", x.dearest(), best);
                    break;
                }
                case 32:
                    check("sets " + k, x.sets(k), m.sets(k).size());
                    break;
                case 33: {
                    List<Integer> sets = m.sets(k);
                    int want = -1;
                    if (m.note(n) && !sets.isEmpty()) {
                        int w = m.with(sets, n);
                        want = w == 0 ? 0 : w == sets.size() ? 1 : -2;
                    }
                    check("sure " + n + " " + k, x.sure(n, k), want);
                    int[] asked = m.ask(k);
                    check("ask 0 " + k, x.ask(0, k), asked[0]);
                    check("ask 1 " + k, x.ask(1, k), asked[1]);
                    check("ask 2 " + k, x.ask(2, k), -1);
                    break;
                }
                case 34: {
                    int box = r.nextInt(5) - 1;
                    int want = -1;
                    if (box >= 0 && box < 3 && m.boxes[box] != null) {
                        want = 0;
                        State s = m.boxes[box];
                        for (int i = 0; i < m.notes(); i++) {
                            boolean same = s.hand[i] == m.now.hand[i] && s.key[i] == m.now.key[i]
                                    && s.length[i] == m.now.length[i] && s.loud[i] == m.now.loud[i];
                            want |= same ? 0 : 1 << i;
                        }
                    }
                    check("differ " + box, x.differ(box), want);
                    break;
                }
                default:
                    aboutAll();
                    break;
            }
        }

        void aboutAll() {
            int[] want = {m.notes(), m.told.roles.size(), m.told.beats, m.told.limits.get("span"), m.told.limits.get("fingers"),
                m.told.limits.get("leap"), m.told.limits.get("ear"), pedalBits(), m.undos.size(), m.redos.size(), m.heard.size(),
                m.time, 0, m.told.units, m.lying.size(), Integer.bitCount(m.given(m.now))};
            for (int what = -1; what <= 16; what++) {
                check("about " + what, x.about(what), what >= 0 && what < 16 ? want[what] : -1);
            }
        }
    }
}
