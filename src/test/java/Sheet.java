/** What the sheets of due answers have in common: wrong numbers, and forts that are ready for use. */
abstract class Sheet {
    static final int NONE = WrongEnd.NONE;
    static final int UNKNOWN = -2;
    static final int LOW = Integer.MIN_VALUE;
    static final int HIGH = Integer.MAX_VALUE;
    /** Numbers that no call takes for anything. */
    static final int[] WRONG = {LOW, LOW + 1, -1000, -2, HIGH - 1, HIGH};

    final Checks checks = new Checks();

    void due(String what, long got, long want) {
        checks.due(what, got, want);
    }

    void due(String what, boolean got, boolean want) {
        checks.due(what, got, want);
    }

    /** An object ruled by a text that must be sound. */
    WrongEnd ruled(int w, int h, String text) {
        WrongEnd x = new WrongEnd(w, h);
        due("text() of " + text, Feeder.text(x, text), 0);
        due("by(0)", x.by(0), true);
        return x;
    }

    /** The object's first telescopes. */
    void place(WrongEnd x, int... cells) {
        for (int i = 0; i < cells.length; i++) {
            due("scope(" + cells[i] + ")", x.scope(cells[i]), i);
        }
    }

    /** What a text without names comes to in a prior: 0 .. 99 alone can be told so. */
    void worked(String sum, int want) {
        due("12: " + sum, ruled(1, 1, "prior " + sum + ";").prior(0), want);
    }

    /** The text's FAULT and its place, on an object of its own; back leaves both as they are. */
    void faulty(String text, int fault, int place) {
        WrongEnd x = new WrongEnd(1, 1);
        due("10: text() of " + text, Feeder.text(x, text), fault == 0 ? 0 : NONE);
        due("10: the tape behind " + text, x.about(7), 0);
        due("10: texts behind " + text, x.about(3), fault == 0 ? 1 : 0);
        due("10: fault(0) of " + text, x.fault(0), fault);
        due("10: fault(1) of " + text, x.fault(1), place);
        x.back();
        due("10: fault(0) stays behind back", x.fault(0), fault);
        due("10: fault(1) stays behind back", x.fault(1), place);
    }

    void sound(String text) {
        faulty(text, 0, NONE);
    }
}
