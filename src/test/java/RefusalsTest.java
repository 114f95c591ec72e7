import java.util.ArrayList;
import java.util.List;

/**
 * Calls that must leave everything as it was: those that are refused, and those that only ask.
 * Two forts with the same calls behind them are told apart by nothing, though one was called in vain.
 */
public final class RefusalsTest extends Sheet {
    private interface Call {
        long on(WrongEnd x);
    }

    private interface Fort {
        WrongEnd made();
    }

    private record Vain(String name, Call call) {
    }

    private static final int[] NO_HOURS = {LOW, -1, 24, HIGH};
    private static final String LAID = "prior 17;  sees far;     ";
    private static final boolean[] BOTH = {true, false};

    private final List<Vain> refused = new ArrayList<>();
    private final List<Vain> asking = new ArrayList<>();

    public static void main(String[] args) {
        RefusalsTest test = new RefusalsTest();
        test.alwaysRefused();
        test.refusedWeighings();
        test.asking();
        test.inVain("new", () -> new WrongEnd(2, 1));
        test.inVain("used", RefusalsTest::used);
        test.inVain("full", RefusalsTest::full);
        test.inVain("weightless", RefusalsTest::weightless);
        test.refusedWhenNew();
        test.refusedWhenUsed();
        test.refusedWhenFull();
        test.refusedWhenWeightless();
        test.takenButWithoutChange();
        test.checks.finish("RefusalsTest");
    }

    private static long told(boolean is) {
        return is ? 1 : 0;
    }

    /** False counts as NONE. */
    private static long ifTrue(boolean is) {
        return is ? 1 : NONE;
    }

    private void refuse(String name, Call call) {
        refused.add(new Vain(name, call));
    }

    private void ask(String name, Call call) {
        asking.add(new Vain(name, call));
    }

    /** Refused on each of the forts, all of which are 2 by 1. */
    private void alwaysRefused() {
        for (int cell : new int[] {LOW, -1, 2, HIGH}) {
            refuse("hill(" + cell + ", 3)", x -> ifTrue(x.hill(cell, 3)));
            refuse("scope(" + cell + ")", x -> x.scope(cell));
        }
        for (int height : new int[] {LOW, -1, 10, HIGH}) {
            refuse("hill(1, " + height + ")", x -> ifTrue(x.hill(1, height)));
        }
        for (int scope : new int[] {LOW, -1, 8, HIGH}) {
            for (boolean is : BOTH) {
                refuse("turn(" + scope + ", " + is + ")", x -> ifTrue(x.turn(scope, is)));
                refuse("lend(" + scope + ", " + is + ")", x -> ifTrue(x.lend(scope, is)));
                refuse("sees(" + scope + ", ..)", x -> x.sees(scope, is, 0, 0, is));
            }
            refuse("report(" + scope + ", 0, 0)", x -> x.report(scope, 0, 0));
        }
        for (int tells : new int[] {LOW, -1, 10, HIGH}) {
            refuse("report(0, 0, " + tells + ")", x -> x.report(0, 0, tells));
        }
        for (int n : new int[] {LOW, -1, 301, HIGH}) {
            refuse("end(" + n + ")", x -> x.end(n));
        }
        for (int text : new int[] {LOW, -2, 4, HIGH}) {
            refuse("by(" + text + ")", x -> ifTrue(x.by(text)));
        }
        for (int what : new int[] {LOW, -1, 2, HIGH}) {
            refuse("fault(" + what + ")", x -> x.fault(what));
        }
        for (int what : new int[] {LOW, -1, 8, 12, 29, 38, 50, HIGH}) {
            refuse("about(" + what + ")", x -> x.about(what) - UNKNOWN + NONE);
        }
    }

    private void refusedWeighings() {
        for (int hour : NO_HOURS) {
            refuse("sees at " + hour, x -> x.sees(0, false, 0, hour, false));
            refuse("report at " + hour, x -> x.report(0, hour, 0));
            refuse("sure at " + hour, x -> x.sure(0, 2, hour));
            refuse("ask at " + hour, x -> x.ask(hour, true, 0));
            refuse("eighth at " + hour, x -> x.eighth(hour));
            refuse("spied at " + hour, x -> x.spied(0, 0, hour, 1, 0));
        }
        for (int state : new int[] {LOW, -1, 16, HIGH}) {
            refuse("prior(" + state + ")", x -> x.prior(state));
            refuse("sees of " + state, x -> x.sees(0, false, state, 0, false));
            refuse("weight(" + state + ", 0)", x -> x.weight(state, 0));
            refuse("spied of " + state, x -> x.spied(0, state, 0, 1, 0));
        }
        for (int k : new int[] {LOW, -1, 11, HIGH}) {
            refuse("weight(0, " + k + ")", x -> x.weight(0, k));
            refuse("odds as of " + k, x -> x.odds(k, NONE, NONE, NONE, 0));
            refuse("likely(" + k + ")", x -> x.likely(k));
        }
        for (int wrong : new int[] {LOW, -2, 5, HIGH}) {
            refuse("odds of cell " + wrong, x -> x.odds(0, wrong, NONE, NONE, 0));
            refuse("odds of size " + wrong, x -> x.odds(0, NONE, wrong, NONE, 0));
            refuse("odds of paints " + wrong, x -> x.odds(0, NONE, NONE, wrong, 0));
            refuse("odds, what " + wrong, x -> x.odds(0, NONE, NONE, NONE, wrong));
            refuse("ask, what " + wrong, x -> x.ask(0, true, wrong));
            refuse("does, what " + wrong, x -> x.does(1, wrong));
        }
        for (int n : new int[] {LOW, -1, 0, 11, HIGH}) {
            refuse("does(" + n + ", 0)", x -> x.does(n, 0));
            refuse("spied of " + n + " hours", x -> x.spied(0, 0, 0, n, 0));
        }
        for (int hold : new int[] {LOW, -2, 16, 17, HIGH}) {
            refuse("sure(" + hold + ", NONE)", x -> x.sure(hold, NONE, 0));
            refuse("sure(0, " + hold + ")", x -> x.sure(0, hold, 0));
        }
        refuse("sure(0, 1)", x -> x.sure(0, 1, 0));
        refuse("sure(NONE, 0)", x -> x.sure(NONE, 0, 0));
        refuse("ask of one, what 1", x -> x.ask(0, false, 1));
        for (int seed : new int[] {LOW, -1, 10000, HIGH}) {
            refuse("spied by " + seed, x -> x.spied(seed, 0, 0, 1, 0));
        }
        for (int k : new int[] {LOW, -1, 80, HIGH}) {
            refuse("spied, k " + k, x -> x.spied(0, 0, 0, 10, k));
        }
    }

    /** These have answers, but change nothing. */
    private void asking() {
        ask("prior", x -> x.prior(3));
        ask("sees", x -> x.sees(0, true, 3, 5, false));
        ask("slip", x -> x.sees(0, true, 3, 5, true));
        ask("weight", x -> x.weight(3, 0));
        ask("odds", x -> x.odds(0, 1, 2, 1, 0));
        ask("likely", x -> x.likely(0));
        ask("sure of one", x -> x.sure(1, NONE, 4));
        ask("sure of two", x -> x.sure(1, 4, 4));
        ask("ask one", x -> x.ask(4, false, 0));
        ask("ask two", x -> x.ask(4, true, 1));
        ask("eighth", x -> x.eighth(4));
        ask("does", x -> x.does(5, 0));
        ask("spied", x -> x.spied(77, 3, 20, 10, 7));
        ask("fault", x -> x.fault(0));
        ask("about", x -> x.about(6));
    }

    private void inVain(String name, Fort fort) {
        refusedHere(name, fort, refused.toArray(new Vain[0]));
        List<Long> untouched = allTold(fort.made());
        for (Vain vain : asking) {
            WrongEnd x = fort.made();
            long answer = vain.call.on(x);
            due(name + ": " + vain.name + " again", vain.call.on(x), answer);
            compare(name + ", behind " + vain.name, allTold(x), untouched);
        }
    }

    private void refusedHere(String name, Fort fort, Vain... calls) {
        List<Long> untouched = allTold(fort.made());
        for (Vain vain : calls) {
            WrongEnd x = fort.made();
            due(name + ": " + vain.name + " is refused", vain.call.on(x), NONE);
            compare(name + ", behind " + vain.name, allTold(x), untouched);
        }
    }

    /** From here on: what is refused because of what the fort has or has not. */
    private void refusedWhenNew() {
        refusedHere("new", () -> new WrongEnd(2, 1),
                new Vain("turn", x -> ifTrue(x.turn(0, true))),
                new Vain("lend", x -> ifTrue(x.lend(0, true))),
                new Vain("undo", x -> x.undo()),
                new Vain("end(1)", x -> x.end(1)),
                new Vain("fault(0)", x -> x.fault(0)),
                new Vain("fault(1)", x -> x.fault(1)),
                new Vain("by(0)", x -> ifTrue(x.by(0))),
                new Vain("sees", x -> x.sees(0, false, 0, 0, false)),
                new Vain("report", x -> x.report(0, 0, 0)),
                new Vain("weight as of 1", x -> x.weight(0, 1)),
                new Vain("odds as of 1", x -> x.odds(1, NONE, NONE, NONE, 0)),
                new Vain("likely(1)", x -> x.likely(1)),
                new Vain("sure", x -> x.sure(0, NONE, 0)),
                new Vain("ask", x -> x.ask(0, false, 0)),
                new Vain("spied", x -> x.spied(0, 0, 0, 1, 0)));
    }

    private void refusedWhenUsed() {
        refusedHere("used", RefusalsTest::used,
                new Vain("turn(3)", x -> ifTrue(x.turn(3, true))),
                new Vain("lend(3)", x -> ifTrue(x.lend(3, true))),
                new Vain("end(26)", x -> x.end(26)),
                new Vain("by(2)", x -> ifTrue(x.by(2))),
                new Vain("sees(3)", x -> x.sees(3, false, 0, 0, false)),
                new Vain("report(3)", x -> x.report(3, 0, 0)),
                new Vain("report of a lent one", x -> x.report(1, 0, 0)),
                new Vain("weight as of 3", x -> x.weight(0, 3)),
                new Vain("odds as of 3", x -> x.odds(3, NONE, NONE, NONE, 0)),
                new Vain("likely(3)", x -> x.likely(3)),
                new Vain("sure of a lent one", x -> x.sure(2, NONE, 0)),
                new Vain("sure of a lent one, too", x -> x.sure(0, 3, 0)),
                new Vain("spied, k 2", x -> x.spied(0, 0, 0, 1, 2)));
    }

    private void refusedWhenFull() {
        refusedHere("full", RefusalsTest::full,
                new Vain("scope", x -> x.scope(0)),
                new Vain("feed", x -> x.feed(0, 0, 0, 0, 0)),
                new Vain("text", x -> x.text()),
                new Vain("report", x -> x.report(0, 0, 0)),
                new Vain("eighth", x -> x.eighth(0)));
    }

    private void refusedWhenWeightless() {
        refusedHere("weightless", RefusalsTest::weightless,
                new Vain("odds", x -> x.odds(1, NONE, NONE, NONE, 0)),
                new Vain("odds of some", x -> x.odds(1, 1, 1, 1, 1)),
                new Vain("likely", x -> x.likely(1)),
                new Vain("does", x -> x.does(1, 0)),
                new Vain("ask", x -> x.ask(0, false, 0)),
                new Vain("ask two", x -> x.ask(0, true, 0)),
                new Vain("spied", x -> x.spied(0, 0, 0, 1, 0)));
    }

    /** Calls that are taken, but say what is so already, or undo one another. */
    private void takenButWithoutChange() {
        List<Long> untouched = allTold(used());
        Vain[] calls = {
            new Vain("hill as it is", x -> told(x.hill(1, 7))),
            new Vain("turned as it is", x -> told(x.turn(0, true))),
            new Vain("not turned as it is", x -> told(x.turn(1, false))),
            new Vain("lent as it is", x -> told(x.lend(1, true))),
            new Vain("not lent as it is", x -> told(x.lend(2, false))),
            new Vain("a step and back", x -> told(x.turn(1, true)) + x.undo() - 1),
            new Vain("by the text that rules", x -> told(x.by(1))),
            new Vain("the tape's end where it is", x -> x.end(25) - 24),
            new Vain("more tape and less", x -> x.feed(1, 2, 3, 4, 5) + x.end(25) - 69),
            // The latest text of this fort had this fault, and the tape is laid as it was.
            new Vain("a fault once more", x -> {
                int none = Feeder.text(x, "prior 2;; ");
                Feeder.lay(x, LAID);
                return -none;
            })};
        for (Vain vain : calls) {
            WrongEnd x = used();
            due("used: " + vain.name, vain.call.on(x), 1);
            compare("used, behind " + vain.name, allTold(x), untouched);
        }
    }

    /** Something of everything, and an image that is unlike it. */
    private static WrongEnd used() {
        WrongEnd x = new WrongEnd(2, 1);
        x.scope(1);
        x.hill(0, 2);
        x.turn(0, true);
        x.report(0, 3, 2);
        Feeder.text(x, "prior size;");
        x.image();
        x.scope(0);
        x.scope(1);
        x.hill(1, 7);
        x.lend(1, true);
        x.turn(2, true);
        Feeder.text(x, "prior 1+hill;sees size+scope;slip 1+turned;cost act*size;");
        x.by(1);
        x.report(2, 5, 5);
        Feeder.text(x, "prior 1;; ");
        Feeder.lay(x, LAID);
        return x;
    }

    /** No room for anything; the image is the new object. */
    private static WrongEnd full() {
        WrongEnd x = new WrongEnd(2, 1);
        for (int i = 0; i < 8; i++) {
            x.scope(i % 2);
        }
        for (int i = 0; i < 23; i++) {
            x.turn(i % 8, i / 8 % 2 == 0);
        }
        for (int i = 0; i < 4; i++) {
            Feeder.text(x, "prior " + (10 + i) + ";slip " + i + ";");
        }
        x.by(2);
        for (int i = 0; i < 10; i++) {
            x.report(i % 8, i, i % 2);
        }
        Feeder.lay(x, "prior 18" + " ".repeat(291) + ";");
        return x;
    }

    /** Nobody could have been seen so, and everybody is lent. */
    private static WrongEnd weightless() {
        WrongEnd x = new WrongEnd(2, 1);
        x.scope(0);
        x.scope(1);
        x.report(0, 0, 9);
        x.image();
        x.lend(0, true);
        x.lend(1, true);
        return x;
    }

    private void compare(String name, List<Long> got, List<Long> want) {
        due(name + ", answers", got.size(), want.size());
        for (int i = 0; i < got.size() && i < want.size(); i++) {
            due(name + ", answer " + i, got.get(i), want.get(i));
        }
    }

    /** All that calls can tell, of the fort and of its image and its tape: the fort is spent by it. */
    private static List<Long> allTold(WrongEnd x) {
        List<Long> told = new ArrayList<>();
        look(told, x);
        told.add((long) x.back());
        look(told, x);
        told.add((long) x.text());
        told.add((long) x.fault(0));
        told.add((long) x.fault(1));
        told.add((long) x.about(7));
        told.add(told(x.by(x.about(3) - 1)));
        told.add((long) x.prior(5));
        return told;
    }

    private static void look(List<Long> told, WrongEnd x) {
        for (int what = 0; what < 50; what++) {
            told.add((long) x.about(what));
        }
        told.add((long) x.fault(0));
        told.add((long) x.fault(1));
        for (int state = 0; state < 16; state++) {
            told.add(x.weight(state, x.about(5)));
        }
        for (int scope = 0; scope < 8; scope++) {
            told.add((long) x.sees(scope, scope % 2 == 0, 9, 12, scope % 3 == 0));
        }
        for (int i = 0; i < 21; i++) {
            int scope = x.undo();
            told.add((long) scope);
            told.add((long) x.about(30 + Math.max(0, scope)));
        }
    }
}
