/** Part I of the document and promises 1 to 6: each sentence with a bound, at it and beyond it. */
public final class EdgesOfTheFortTest extends Sheet {
    public static void main(String[] args) {
        EdgesOfTheFortTest test = new EdgesOfTheFortTest();
        test.nearestSizes();
        test.atFirst();
        test.cellsByRows();
        test.statesByNumber();
        test.howFar();
        test.heights();
        test.hillsOfNoCell();
        test.eightTelescopes();
        test.telescopesOfNoCell();
        test.newOnesAreNeitherTurnedNorLent();
        test.turnsOfNoTelescope();
        test.stepsThatChangeNothing();
        test.turnedAndLent();
        test.noStepToTakeBack();
        test.twentyStepsAndOneMore();
        test.stepsAfterSomeWereTakenBack();
        test.stepsByRoundsOfTwenty();
        test.checks.finish("EdgesOfTheFortTest");
    }

    private static int nearest(int number) {
        return number < 1 ? 1 : number > 4 ? 4 : number;
    }

    /** 1: "1 to 4 each; others: the nearest of these". */
    private void nearestSizes() {
        int[] sizes = {LOW, -5, -1, 0, 1, 2, 3, 4, 5, 6, 100, HIGH};
        for (int w : sizes) {
            for (int h : sizes) {
                WrongEnd x = new WrongEnd(w, h);
                String name = "1: " + w + " by " + h + ": ";
                int cells = nearest(w) * nearest(h);
                due(name + "W", x.about(0), nearest(w));
                due(name + "H", x.about(1), nearest(h));
                due(name + "the last cell's hill", x.hill(cells - 1, 9), true);
                due(name + "no hill behind it", x.hill(cells, 9), false);
                due(name + "told", x.about(9 + cells), 9);
                due(name + "not told", x.about(10 + cells), UNKNOWN);
                due(name + "a telescope at the last cell", x.scope(cells - 1), 0);
                due(name + "none behind it", x.scope(cells), NONE);
                due(name + "the last state", x.prior(8 * cells - 1), 1);
                due(name + "none behind it", x.prior(8 * cells), NONE);
                due(name + "odds of the last cell", x.odds(0, cells - 1, NONE, NONE, 1), cells);
                due(name + "none behind it", x.odds(0, cells, NONE, NONE, 1), NONE);
            }
        }
    }

    /** 1: a new object is empty, and "THE IMAGE is this". */
    private void atFirst() {
        WrongEnd x = new WrongEnd(2, 3);
        empty("1: new", x);
        due("1: back at once", x.back(), 0);
        empty("1: back at once", x);
        x.hill(5, 9);
        x.scope(5);
        x.turn(0, true);
        x.lend(0, true);
        x.lend(0, false);
        x.report(0, 23, 9);
        Feeder.text(x, "prior 5;");
        x.by(0);
        due("1: back", x.back(), 0);
        empty("1: back", x);
    }

    private void empty(String when, WrongEnd x) {
        int[] first = {2, 3, 0, 0, NONE, 0, 0, 0};
        for (int what = 0; what < first.length; what++) {
            due(when + ", about(" + what + ")", x.about(what), first[what]);
        }
        for (int cell = 0; cell < 6; cell++) {
            due(when + ", hill of " + cell, x.about(10 + cell), 0);
        }
        due(when + ", no telescope", x.about(30), UNKNOWN);
        due(when + ", no report", x.about(40), UNKNOWN);
        due(when + ", no step", x.undo(), NONE);
        due(when + ", nothing to forget", x.forget(), 0);
        due(when + ", prior", x.prior(47), 1);
        due(when + ", likely", x.likely(0), 0);
        due(when + ", nobody to turn", x.turn(0, true), false);
        due(when + ", nobody to lend", x.lend(0, true), false);
        due(when + ", nobody to ask", x.ask(0, false, 0), NONE);
        due(when + ", no text", x.by(0), false);
    }

    /** I: "c = x + W y". */
    private void cellsByRows() {
        for (int w = 1; w <= 4; w++) {
            for (int h = 1; h <= 4; h++) {
                WrongEnd x = ruled(w, h, "prior 10*y+x;");
                for (int cell = 0; cell < w * h; cell++) {
                    due("I: cell " + cell + " of " + w + " by " + h, x.prior(8 * cell), 10 * (cell / w) + cell % w);
                }
            }
        }
    }

    /** I: "8 times the cell, and 2 times (SIZE 1 .. 4 less 1), and 1 if he PAINTS". */
    private void statesByNumber() {
        WrongEnd x = ruled(3, 2, "prior size*10+paints;");
        for (int state = 0; state < 48; state++) {
            due("I: state " + state, x.prior(state), (state % 8 / 2 + 1) * 10 + state % 2);
        }
        due("I: state -1", x.prior(-1), NONE);
        due("I: state 48", x.prior(48), NONE);
    }

    /** II: "far (how far it is, x and y together)": 0 at its own cell, 6 from corner to corner. */
    private void howFar() {
        WrongEnd x = ruled(4, 4, "sees far;");
        place(x, 0, 3, 12, 15, 6);
        int[] cells = {0, 3, 12, 15, 6};
        for (int scope = 0; scope < cells.length; scope++) {
            for (int cell = 0; cell < 16; cell++) {
                int far = Math.abs(cells[scope] % 4 - cell % 4) + Math.abs(cells[scope] / 4 - cell / 4);
                due("II: far from " + cells[scope] + " to " + cell, x.sees(scope, false, 8 * cell, 0, false), far);
            }
        }
        due("II: corner to corner", x.sees(0, true, 127, 23, false), 6);
        WrongEnd narrow = ruled(1, 4, "sees far;");
        place(narrow, 3);
        due("II: in one column", narrow.sees(0, false, 0, 0, false), 3);
    }

    /** I and 2: a HILL is 0 .. 9. */
    private void heights() {
        WrongEnd x = new WrongEnd(4, 4);
        for (int cell = 0; cell < 16; cell++) {
            due("2: at first", x.about(10 + cell), 0);
        }
        for (int height = 9; height >= 0; height--) {
            due("2: height " + height, x.hill(15, height), true);
            due("2: told", x.about(25), height);
        }
        x.hill(15, 4);
        for (int wrong : new int[] {-1, 10, 11, 256, -256, LOW, HIGH}) {
            due("2: height " + wrong, x.hill(15, wrong), false);
            due("2: still 4", x.about(25), 4);
        }
        due("2: as it was is fine", x.hill(15, 4), true);
        due("2: a neighbour", x.about(24), 0);
    }

    private void hillsOfNoCell() {
        WrongEnd x = new WrongEnd(2, 3);
        for (int wrong : new int[] {-1, 6, 7, 16, LOW, HIGH}) {
            due("2: cell " + wrong, x.hill(wrong, 1), false);
        }
        for (int cell = 0; cell < 6; cell++) {
            due("2: no hill has come", x.about(10 + cell), 0);
        }
    }

    /** I: "TELESCOPES 0 .. 7 (told one by one)"; 3: "NONE .. if there are 8". */
    private void eightTelescopes() {
        WrongEnd x = new WrongEnd(3, 3);
        for (int i = 0; i < 8; i++) {
            due("3: so many", x.about(2), i);
            due("3: not there yet", x.about(30 + i), UNKNOWN);
            due("3: number " + i, x.scope(8 - i), i);
            due("3: its cell", x.about(30 + i), 100 * (8 - i));
        }
        for (int cell = 0; cell < 9; cell++) {
            due("3: a ninth at " + cell, x.scope(cell), NONE);
        }
        due("3: eight", x.about(2), 8);
        due("3: no number 8", x.about(38), UNKNOWN);
        for (int i = 0; i < 8; i++) {
            due("3: still there", x.about(30 + i), 100 * (8 - i));
        }
    }

    private void telescopesOfNoCell() {
        WrongEnd x = new WrongEnd(1, 2);
        for (int wrong : new int[] {-1, 2, 3, 16, LOW, HIGH}) {
            due("3: cell " + wrong, x.scope(wrong), NONE);
            due("3: none has come", x.about(2), 0);
        }
        place(x, 1, 1, 0, 1);
    }

    /** I: "at first not", also of one whose number was another's ahead of a back. */
    private void newOnesAreNeitherTurnedNorLent() {
        WrongEnd x = new WrongEnd(2, 1);
        place(x, 1, 1);
        x.turn(0, true);
        x.turn(1, true);
        x.lend(1, true);
        x.back();
        due("I: none is left", x.about(30), UNKNOWN);
        place(x, 0, 0);
        due("I: not turned", x.about(30), 0);
        due("I: nor lent", x.about(31), 0);
        due("I: no step", x.undo(), NONE);
        due("I: it reports", x.report(1, 0, 0), 1);
        due("I: as it is held", x.about(40), 1000);
    }

    /** 4 and 5: "False for others", and no STEP. */
    private void turnsOfNoTelescope() {
        WrongEnd x = new WrongEnd(2, 1);
        for (int scopes = 0; scopes <= 8; scopes++) {
            for (int wrong : new int[] {-1, scopes, 8, 9, LOW, HIGH}) {
                for (boolean is : new boolean[] {true, false}) {
                    if (scopes % 4 == 0) {
                        due("4: turn(" + wrong + ") of " + scopes, x.turn(wrong, is), false);
                        due("5: lend(" + wrong + ") of " + scopes, x.lend(wrong, is), false);
                    }
                }
            }
            due("6: no step", x.about(6), 0);
            due("3: one more", x.scope(1), scopes < 8 ? scopes : NONE);
        }
        for (int scope = 0; scope < 8; scope++) {
            due("4: none is turned or lent", x.about(30 + scope), 100);
        }
        due("4: the last", x.turn(7, true), true);
        due("5: the last", x.lend(7, true), true);
        due("4: told", x.about(37), 111);
    }

    /** III: only what "makes a TELESCOPE other than it was" is a STEP. */
    private void stepsThatChangeNothing() {
        WrongEnd x = new WrongEnd(1, 1);
        place(x, 0);
        due("4: not turned, again", x.turn(0, false), true);
        due("5: not lent, again", x.lend(0, false), true);
        due("6: no step", x.about(6), 0);
        due("6: none to take back", x.undo(), NONE);
        x.turn(0, true);
        x.lend(0, true);
        due("4: turned, again", x.turn(0, true), true);
        due("5: lent, again", x.lend(0, true), true);
        due("6: two steps", x.about(6), 2);
        due("6: the lending", x.undo(), 0);
        due("6: turned alone", x.about(30), 10);
        due("6: the turning", x.undo(), 0);
        due("6: neither", x.about(30), 0);
        due("6: no more", x.undo(), NONE);
    }

    private void turnedAndLent() {
        WrongEnd x = new WrongEnd(1, 1);
        place(x, 0);
        x.lend(0, true);
        due("4: a lent one is turned", x.turn(0, true), true);
        due("4: told", x.about(30), 11);
        due("5: and comes home turned", x.lend(0, false), true);
        due("5: told", x.about(30), 10);
        due("4: and is turned back", x.turn(0, false), true);
        due("4: told", x.about(30), 0);
        due("6: four steps", x.about(6), 4);
    }

    /** 6: "NONE: there is none." */
    private void noStepToTakeBack() {
        WrongEnd x = new WrongEnd(1, 1);
        due("6: of a new one", x.undo(), NONE);
        place(x, 0);
        x.hill(0, 5);
        x.report(0, 1, 1);
        due("6: a telescope, a hill, a report are no steps", x.undo(), NONE);
        x.turn(0, true);
        due("6: one", x.undo(), 0);
        due("6: taking back is no step", x.about(6), 0);
        due("6: none", x.undo(), NONE);
        due("6: none still", x.undo(), NONE);
        due("6: nothing else went back", 10 * x.about(10) + x.about(5), 51);
    }

    /** III: "the latest 20 can be taken back, the latest first". */
    private void twentyStepsAndOneMore() {
        WrongEnd x = new WrongEnd(1, 1);
        place(x, 0, 0, 0);
        x.lend(2, true);
        for (int i = 1; i <= 20; i++) {
            x.turn(i % 2, x.about(30 + i % 2) == 0);
            due("6: steps", x.about(6), Math.min(20, i + 1));
        }
        for (int i = 20; i >= 1; i--) {
            due("6: step " + i, x.undo(), i % 2);
            due("6: left", x.about(6), i - 1);
        }
        due("6: the oldest of 21 can't be", x.undo(), NONE);
        due("6: so it is lent still", x.about(32), 1);
        due("6: the others are as at first", x.about(30) + x.about(31), 0);
    }

    private void stepsAfterSomeWereTakenBack() {
        WrongEnd x = new WrongEnd(1, 1);
        place(x, 0, 0, 0);
        for (int i = 0; i < 20; i++) {
            x.turn(0, i % 2 == 0);
        }
        for (int i = 0; i < 5; i++) {
            x.undo();
        }
        due("6: 15 are left", x.about(6), 15);
        for (int i = 0; i < 6; i++) {
            x.lend(1, i % 2 == 0);
        }
        due("6: 20 of 21", x.about(6), 20);
        for (int i = 0; i < 6; i++) {
            due("6: of the lent one", x.undo(), 1);
            due("6: as it was", x.about(31), i % 2 == 0 ? 1 : 0);
        }
        for (int i = 14; i >= 1; i--) {
            due("6: of the turned one", x.undo(), 0);
            due("6: as it was", x.about(30), i % 2 == 0 ? 0 : 10);
        }
        due("6: the oldest is out", x.undo(), NONE);
        due("6: and stays done", x.about(30), 10);
    }

    private void stepsByRoundsOfTwenty() {
        for (int steps = 38; steps <= 43; steps++) {
            WrongEnd x = new WrongEnd(1, 1);
            place(x, 0, 0, 0, 0, 0, 0, 0);
            for (int i = 0; i < steps; i++) {
                x.turn(i % 7, x.about(30 + i % 7) == 0);
            }
            for (int i = steps - 1; i >= steps - 20; i--) {
                due("6: step " + i + " of " + steps, x.undo(), i % 7);
                due("6: as it was ahead of it", x.about(30 + i % 7), i / 7 % 2 * 10);
            }
            due("6: no more of " + steps, x.undo(), NONE);
        }
    }
}
