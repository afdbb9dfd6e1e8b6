/** All that can be seen of an object, as a text: two objects that had the same done to them look the same. */
final class View {
    private final NinetyPlayers x;
    private final StringBuilder seen = new StringBuilder();

    private View(NinetyPlayers x) {
        this.x = x;
    }

    /** What lies there is told only if asked for, as two calls are meant to change it. */
    static String of(NinetyPlayers x, boolean lying) {
        View view = new View(x);
        view.about(lying);
        view.state();
        if (lying) {
            view.lying();
        }
        view.boxes();
        return view.seen.toString();
    }

    /** What shows only when calls bring it out: acts taken back and done again, what is known when, boxes, the tape. */
    static String bringOut(NinetyPlayers x) {
        View view = new View(x);
        view.known();
        view.actsDoneAgain();
        view.actsTakenBack();
        view.boxesGoneBackTo();
        view.taped();
        return view.seen.toString();
    }

    private void add(String name, long answer) {
        seen.append(name).append(answer).append(' ');
    }

    private void about(boolean lying) {
        for (int what = 0; what < 16; what++) {
            if (what != 14 || lying) {
                add("about" + what + "=", x.about(what));
            }
        }
        add("fault=", x.fault(0));
        add("at=", x.fault(1));
    }

    private void state() {
        for (int note = 0; note < x.about(0); note++) {
            seen.append("note").append(note).append('=');
            for (int what = 0; what < 7; what++) {
                add("", x.note(note, what));
            }
        }
        for (int part = 0; part < x.about(1); part++) {
            add("part=", x.part(part, 0) * 10000L + x.part(part, 1));
        }
        add("pedal=", x.about(7));
        add("clashes=", x.clashes());
    }

    private void lying() {
        for (int i = 0; i < x.about(14); i++) {
            add("lies=", x.lies(i));
        }
    }

    private void boxes() {
        for (int box = 0; box < 3; box++) {
            add("differ=", x.differ(box));
        }
    }

    private void known() {
        for (int k = -1; k <= x.about(11); k++) {
            add("sets=", x.sets(k));
        }
    }

    private void actsDoneAgain() {
        for (int i = 0; i < 40 && x.redo(); i++) {
            layingNow();
        }
    }

    private void actsTakenBack() {
        for (int i = 0; i < 40 && x.undo(); i++) {
            layingNow();
        }
    }

    private void layingNow() {
        for (int note = 0; note < x.about(0); note++) {
            for (int what = 2; what < 6; what++) {
                add("", x.note(note, what));
            }
        }
        add("pedal=", x.about(7));
    }

    private void boxesGoneBackTo() {
        for (int box = 0; box < 3; box++) {
            add("back=", x.back(box));
            layingNow();
        }
    }

    private void taped() {
        add("score=", x.score());
        add("fault=", x.fault(0));
        add("at=", x.fault(1));
        add("parts=", x.about(1));
    }
}
