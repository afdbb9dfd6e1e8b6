import java.nio.charset.StandardCharsets;

/** What tests share: texts told by feeds, and a tally of the answers that are not those that are due. */
final class Tally {
    private final String test;
    private int checked;
    private int wrong;

    Tally(String test) {
        this.test = test;
    }

    /** A sentence of the document, the call that it speaks of, what was answered, and what is due. */
    void due(String sentence, String call, long got, long want) {
        checked++;
        if (got != want) {
            wrong++;
            System.out.println("'" + sentence + "': " + call + " answered " + got + ", due is " + want);
        }
    }

    void due(String sentence, String call, boolean got, boolean want) {
        due(sentence, call, got ? 1 : 0, want ? 1 : 0);
    }

    void same(String sentence, String call, String got, String want) {
        checked++;
        if (!got.equals(want)) {
            wrong++;
            System.out.println("'" + sentence + "': " + call + " left\n  " + got + "\ndue is\n  " + want);
        }
    }

    /** A text is told to a new object: kind 0 if it is a SCORE, else the FAULT and its place. */
    void text(String sentence, String text, int kind, int place) {
        NinetyPlayers x = new NinetyPlayers();
        String call = "score() of '" + text.replace("\n", "\\n") + "'";
        int answer = tell(x, text);
        due(sentence, call, answer, kind == 0 ? x.about(0) : NinetyPlayers.NONE);
        due(sentence, call + ", fault(0)", x.fault(0), kind);
        due(sentence, call + ", fault(1)", x.fault(1), kind == 0 ? NinetyPlayers.NONE : place);
    }

    void fine(String sentence, String text) {
        text(sentence, text, 0, NinetyPlayers.NONE);
    }

    /** Says how it went; to be called last, for it ends the run if an answer was wrong. */
    void end() {
        System.out.println(test + ": " + checked + " checked, " + wrong + " wrong");
        if (wrong != 0 || checked == 0) {
            System.exit(1);
        }
    }

    static int tell(NinetyPlayers x, String text) {
        put(x, text);
        return x.score();
    }

    /** The TAPE has this text alone then. */
    static void put(NinetyPlayers x, String text) {
        x.end(0);
        byte[] bytes = text.getBytes(StandardCharsets.ISO_8859_1);
        for (int i = 0; i < bytes.length; i += 20) {
            int[] n = new int[5];
            for (int j = 0; j < 20 && i + j < bytes.length; j++) {
                n[j / 4] |= (bytes[i + j] & 255) << 24 - j % 4 * 8;
            }
            x.feed(n[0], n[1], n[2], n[3], n[4]);
        }
        x.end(bytes.length);
    }

    static NinetyPlayers of(String text) {
        NinetyPlayers x = new NinetyPlayers();
        if (tell(x, text) < 0) {
            throw new IllegalArgumentException("fault " + x.fault(0) + " at " + x.fault(1) + " of " + text);
        }
        return x;
    }

    /** Notes na, nb .. of the part p that the head tells, each as "beat key long [loud]". */
    static String lines(String head, String... notes) {
        StringBuilder s = new StringBuilder(head);
        for (int i = 0; i < notes.length; i++) {
            String[] n = notes[i].split(" ");
            s.append("note n").append((char) ('a' + i)).append(" of p at ").append(n[0]);
            s.append(" key ").append(n[1]).append(" long ").append(n[2]);
            s.append(n.length > 3 ? " loud " + n[3] : "").append(";");
        }
        return s.toString();
    }

    static NinetyPlayers notes(String head, String... notes) {
        return of(lines(head, notes));
    }
}
