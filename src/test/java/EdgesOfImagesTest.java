/** Promises 24 to 26: each sentence with a bound, at it and beyond it. */
public final class EdgesOfImagesTest extends Sheet {
    public static void main(String[] args) {
        EdgesOfImagesTest test = new EdgesOfImagesTest();
        test.countsReports();
        test.staysWhenGoneBackTo();
        test.isNotChangedByWhatFollows();
        test.hasNoTape();
        test.hasNoFault();
        test.hasTexts();
        test.hasSteps();
        test.hasFullRows();
        test.tellsCounts();
        test.tellsHills();
        test.tellsTelescopes();
        test.tellsReports();
        test.tellsNothingElse();
        test.checks.finish("EdgesOfImagesTest");
    }

    /** 24 and 25: "how many REPORTS there are", from none to ten. */
    private void countsReports() {
        WrongEnd x = new WrongEnd(1, 1);
        place(x, 0);
        for (int reports = 0; reports <= 10; reports++) {
            due("24: so many", x.image(), reports);
            due("24: still there", x.about(5), reports);
            x.forget();
            due("25: so many", x.back(), reports);
            due("25: there again", x.about(5), reports);
            due("14: the next", x.report(0, reports, 1), reports < 10 ? reports + 1 : NONE);
        }
        due("25: ten again", x.back(), 10);
    }

    /** 25: "(it stays)". */
    private void staysWhenGoneBackTo() {
        WrongEnd x = new WrongEnd(2, 1);
        place(x, 1);
        x.hill(1, 7);
        x.turn(0, true);
        x.report(0, 5, 5);
        x.image();
        for (int round = 0; round < 3; round++) {
            x.hill(1, round);
            x.lend(0, true);
            x.forget();
            x.scope(0);
            due("25: back", x.back(), 1);
            due("25: hill", x.about(11), 7);
            due("25: telescope", x.about(30), 110);
            due("25: telescopes", x.about(2), 1);
            due("25: steps", x.about(6), 1);
            due("25: report", x.about(40), 555);
            due("25: twice", x.back(), 1);
        }
    }

    private void isNotChangedByWhatFollows() {
        WrongEnd x = new WrongEnd(1, 1);
        place(x, 0);
        x.report(0, 1, 1);
        x.image();
        x.back();
        x.forget();
        x.report(0, 2, 2);
        x.turn(0, true);
        x.hill(0, 9);
        due("25: back again", x.back(), 1);
        due("25: report", x.about(40), 11);
        due("25: telescope", x.about(30), 0);
        due("25: hill", x.about(10), 0);
        due("25: no step", x.undo(), NONE);
    }

    /** III: "all as it is, but the tape": neither kept nor brought back. */
    private void hasNoTape() {
        WrongEnd x = new WrongEnd(1, 1);
        Feeder.lay(x, "prior 4;");
        x.image();
        due("24: the tape stays", x.about(7), 8);
        x.end(0);
        x.back();
        due("25: it stays empty", x.about(7), 0);
        Feeder.lay(x, "prior 5;sees 1;");
        x.back();
        due("25: it stays", x.about(7), 15);
        due("25: and is read", x.text(), 0);
        x.by(0);
        due("25: as it was laid", x.prior(0), 5);
        Feeder.lay(x, " ".repeat(300));
        x.back();
        due("25: a full one", x.about(7), 300);
        due("7: is full", x.feed(0, 0, 0, 0, 0), NONE);
    }

    /** III: "and the latest FAULT". */
    private void hasNoFault() {
        WrongEnd x = new WrongEnd(1, 1);
        x.image();
        Feeder.text(x, "prior far;");
        x.back();
        due("25: its fault", x.fault(0), 5);
        due("25: its place", x.fault(1), 6);
        x.image();
        x.text();
        x.back();
        due("25: none", x.fault(0), 0);
        due("25: no place", x.fault(1), NONE);
    }

    private void hasTexts() {
        WrongEnd x = new WrongEnd(1, 1);
        for (int i = 0; i < 4; i++) {
            Feeder.text(x, "prior " + (40 + i) + ";");
            x.by(i);
        }
        x.image();
        x.by(NONE);
        x.back();
        due("25: four", x.about(3), 4);
        due("25: the fourth rules", x.about(4), 3);
        due("25: by its own", x.prior(0), 43);
        due("25: no fifth", x.text(), NONE);
        x.by(0);
        due("25: the first", x.prior(0), 40);
        x.by(NONE);
        x.image();
        x.by(2);
        x.back();
        due("25: none rules", x.about(4), NONE);
        due("25: none rules", x.prior(0), 1);
    }

    private void hasSteps() {
        WrongEnd x = new WrongEnd(1, 1);
        place(x, 0, 0);
        for (int i = 0; i < 25; i++) {
            x.turn(1, i % 2 == 0);
        }
        x.image();
        for (int i = 0; i < 20; i++) {
            x.undo();
        }
        for (int i = 0; i < 3; i++) {
            x.lend(0, i % 2 == 0);
        }
        x.back();
        due("25: twenty again", x.about(6), 20);
        for (int i = 24; i >= 5; i--) {
            due("25: step " + i, x.undo(), 1);
            due("25: as it was ahead of it", x.about(31), i % 2 == 0 ? 0 : 10);
        }
        due("25: no more", x.undo(), NONE);
        due("25: the other one", x.about(30), 0);
    }

    private void hasFullRows() {
        WrongEnd x = new WrongEnd(4, 4);
        for (int cell = 0; cell < 16; cell++) {
            x.hill(cell, cell % 10);
        }
        for (int scope = 0; scope < 8; scope++) {
            x.scope(15 - scope);
            x.turn(scope, scope % 2 == 1);
            x.lend(scope, scope % 4 == 3);
        }
        for (int i = 0; i < 10; i++) {
            x.report(i % 3, 14 + i, i);
        }
        x.image();
        for (int cell = 0; cell < 16; cell++) {
            x.hill(cell, 5);
        }
        for (int scope = 0; scope < 8; scope++) {
            x.turn(scope, scope % 2 == 0);
            x.lend(scope, scope % 4 != 3);
        }
        x.lend(7, false);
        x.forget();
        for (int i = 0; i < 10; i++) {
            x.turn(7, i % 3 != 1);
            x.report(7, i, 9 - i);
        }
        due("25: ten reports", x.back(), 10);
        for (int cell = 0; cell < 16; cell++) {
            due("25: hill of " + cell, x.about(10 + cell), cell % 10);
        }
        for (int scope = 0; scope < 8; scope++) {
            int want = 100 * (15 - scope) + (scope % 2 == 1 ? 10 : 0) + (scope % 4 == 3 ? 1 : 0);
            due("25: telescope " + scope, x.about(30 + scope), want);
        }
        for (int i = 0; i < 10; i++) {
            int want = 1000 * (i % 3) + (i % 3 == 1 ? 500 : 0) + 10 * (14 + i) + i;
            due("25: report " + i, x.about(40 + i), want);
        }
    }

    /** 26: 0 to 7, and -2 for what is beside them. */
    private void tellsCounts() {
        WrongEnd x = new WrongEnd(4, 1);
        int[] empty = {4, 1, 0, 0, NONE, 0, 0, 0};
        for (int what = 0; what < 8; what++) {
            due("26: empty, " + what, x.about(what), empty[what]);
        }
        for (int i = 0; i < 8; i++) {
            x.scope(0);
        }
        for (int i = 0; i < 4; i++) {
            x.text();
        }
        x.by(3);
        for (int i = 0; i < 21; i++) {
            x.turn(0, i % 2 == 0);
        }
        for (int i = 0; i < 11; i++) {
            x.report(0, 0, 0);
        }
        for (int i = 0; i < 16; i++) {
            x.feed(0, 0, 0, 0, 0);
        }
        int[] full = {4, 1, 8, 4, 3, 10, 20, 300};
        for (int what = 0; what < 8; what++) {
            due("26: full, " + what, x.about(what), full[what]);
        }
        for (int what : new int[] {-1, -2, 8, 9}) {
            due("26: about(" + what + ")", x.about(what), UNKNOWN);
        }
    }

    private void tellsHills() {
        for (int w = 1; w <= 4; w++) {
            for (int h = 1; h <= 4; h++) {
                WrongEnd x = new WrongEnd(w, h);
                for (int cell = 0; cell < w * h; cell++) {
                    x.hill(cell, 9 - cell % 10);
                }
                for (int what = 10; what < 30; what++) {
                    int cell = what - 10;
                    due("26: hill " + cell + " of " + w + " by " + h, x.about(what), cell < w * h ? 9 - cell % 10 : UNKNOWN);
                }
            }
        }
    }

    private void tellsTelescopes() {
        WrongEnd x = new WrongEnd(4, 4);
        for (int scopes = 0; scopes <= 8; scopes++) {
            for (int what = 26; what < 40; what++) {
                int scope = what - 30;
                int want = 100 * (15 - scope) + scope % 2 * 10 + scope / 2 % 2;
                due("26: about(" + what + ") of " + scopes, x.about(what), scope >= 0 && scope < scopes ? want : UNKNOWN);
            }
            x.scope(15 - scopes);
            x.turn(scopes, scopes % 2 == 1);
            x.lend(scopes, scopes / 2 % 2 == 1);
        }
    }

    private void tellsReports() {
        WrongEnd x = new WrongEnd(1, 1);
        place(x, 0, 0, 0, 0, 0, 0, 0, 0);
        x.turn(7, true);
        for (int reports = 0; reports <= 10; reports++) {
            for (int what = 38; what < 55; what++) {
                int report = what - 40;
                int want = report % 2 == 0 ? 7500 + 10 * 23 + report : 10 * report + 9;
                due("26: about(" + what + ") of " + reports, x.about(what),
                        report >= 0 && report < reports ? want : UNKNOWN);
            }
            x.report(reports % 2 == 0 ? 7 : 0, reports % 2 == 0 ? 23 : reports, reports % 2 == 0 ? reports : 9);
        }
    }

    private void tellsNothingElse() {
        WrongEnd x = new WrongEnd(4, 4);
        place(x, 0, 0, 0, 0, 0, 0, 0, 0);
        for (int i = 0; i < 10; i++) {
            x.report(0, 0, 0);
        }
        int[] others = {LOW, LOW + 1, LOW + 9, LOW + 10, LOW + 30, LOW + 40, -1000, -40, -30, -10, -3, -2, -1, 8, 9, 26,
            27, 28, 29, 38, 39, 50, 51, 60, 100, 256, 65536 + 10, HIGH - 10, HIGH - 1, HIGH};
        for (int what : others) {
            due("26: about(" + what + ")", x.about(what), UNKNOWN);
        }
    }
}
