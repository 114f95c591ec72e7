/** Part III of the document and promises 12 to 23: each sentence with a bound, at it and beyond it. */
public final class EdgesOfWeighingTest extends Sheet {
    /** 1000000 is no NUMBER, but can be worked. */
    private static final String MILLION = "(1000*1000)";

    public static void main(String[] args) {
        EdgesOfWeighingTest test = new EdgesOfWeighingTest();
        test.cutsTowardsZero();
        test.millions();
        test.chosenSums();
        test.leastAndMostOfClauses();
        test.statesOfPrior();
        test.askedOfSees();
        test.slipsToOneMore();
        test.tenReports();
        test.refusedReports();
        test.forgotten();
        test.asOf();
        test.oddsOfSome();
        test.oddsOfNothing();
        test.likelyOnes();
        test.sureOfWhom();
        test.sureOfAllThatCanBeTold();
        test.sureOfSlips();
        test.sureFromTheirCells();
        test.askedAlone();
        test.askedInTwos();
        test.askedAtTheirCells();
        test.asksOfOthers();
        test.whereAnEighthStands();
        test.actsOneToFive();
        test.costsThatAreLike();
        test.drawsOfEverySlip();
        test.hoursByTwentyFour();
        test.spiedByNobody();
        test.greatestNumbers();
        test.checks.finish("EdgesOfWeighingTest");
    }

    /** II: "/ cuts towards 0, by 0 it is 0". */
    private void cutsTowardsZero() {
        worked("1/2", 0);
        worked("-1/2+5", 5);
        worked("1/-2+5", 5);
        worked("-9/5+5", 4);
        worked("9/-5+5", 4);
        worked("-9/-5", 1);
        worked("-10/5+5", 3);
        worked("5/0+3", 3);
        worked("-5/0+3", 3);
        worked("0/0+3", 3);
        worked("5/(1-1)+3", 3);
        worked("8*(5/0)+3", 3);
        worked("8/(5/0)+3", 3);
        worked("5/0/0+3", 3);
    }

    /** II: "what is above 1000000 (below the same less) is that, at each step". */
    private void millions() {
        worked("9999*100+99+0-" + MILLION + "+50", 49);
        worked("9999*100+99+1-" + MILLION + "+50", 50);
        worked("9999*100+99+2-" + MILLION + "+50", 50);
        worked("-9999*100-99-0+" + MILLION + "+50", 51);
        worked("-9999*100-99-1+" + MILLION + "+50", 50);
        worked("-9999*100-99-2+" + MILLION + "+50", 50);
        worked("1000*1000/9999-50", 50);
        worked("1001*1000-" + MILLION + "+7", 7);
        worked("1001*-1000+" + MILLION + "+7", 7);
        worked("9999*9999/9999-50", 50);
        worked("9999*9999*0+7", 7);
        // These would wrap around in 32 bits.
        worked(MILLION + "*" + MILLION + "-" + MILLION + "+7", 7);
        worked("-" + MILLION + "*" + MILLION + "+" + MILLION + "+7", 7);
        worked("-" + MILLION + "*-" + MILLION + "-" + MILLION + "+7", 7);
        worked(MILLION + "*4295-" + MILLION + "+7", 7);
        worked(MILLION + "*2148-" + MILLION + "+7", 7);
        worked(MILLION + "+" + MILLION + "-" + MILLION + "+7", 7);
        worked("-" + MILLION + "-" + MILLION + "+" + MILLION + "+7", 7);
        worked("-(-" + MILLION + "-5)-" + MILLION + "+7", 7);
        worked(MILLION + "/-1+" + MILLION + "+7", 7);
        worked("-" + MILLION + "/-1-" + MILLION + "+7", 7);
        worked(MILLION, 99);
        worked("-" + MILLION, 0);
        worked("if " + MILLION + "+1=" + MILLION + "?1:2 end", 1);
        worked("if " + MILLION + "-1<" + MILLION + "?1:2 end", 1);
    }

    /** II: "or and and look at both sides always; of if just the SUM that is chosen is worked". */
    private void chosenSums() {
        worked("if 1=1?5:1/0 end", 5);
        worked("if 1=2?1/0:6 end", 6);
        worked("if 1=1 or 1/0=1?5:6 end", 5);
        worked("if 1=2 and 1/0=1?5:6 end", 6);
        worked("if 1=1 or 1=2 and 1=2?5:6 end", 5);
        worked("if not 1=2 or 1=1?5:6 end", 5);
        worked("if not 1=1 or 1=1?5:6 end", 5);
        worked("if not 1=1 and 1=2?5:6 end", 6);
    }

    private int seenOf(String text, boolean slip) {
        WrongEnd x = ruled(1, 1, text);
        place(x, 0);
        return x.sees(0, false, 0, 0, slip);
    }

    /** III: "0 at least, 99 at most", "9 at most", "999 at most". */
    private void leastAndMostOfClauses() {
        int[] worth = {-9999, -1, 0, 1, 8, 9, 10, 11, 98, 99, 100, 101, 998, 999, 1000, 1001, 9999};
        for (int number : worth) {
            String sum = " " + number + ";";
            int least = Math.max(0, number);
            due("12: prior" + sum, ruled(1, 1, "prior" + sum).prior(0), Math.min(99, least));
            due("13: sees" + sum, seenOf("sees" + sum, false), Math.min(9, least));
            due("13: slip" + sum, seenOf("slip" + sum, true), Math.min(9, least));
            due("22: cost" + sum, ruled(1, 1, "cost" + sum).does(1, 1), Math.min(999, least));
        }
        due("13: sees without", seenOf("slip 5;prior 5;cost 5;", false), 1);
        due("13: slip without", seenOf("sees 5;prior 5;cost 5;", true), 0);
        due("12: prior without", ruled(1, 1, "sees 5;slip 5;cost 5;").prior(0), 1);
        due("22: cost without", ruled(1, 1, "sees 5;slip 5;prior 5;").does(5, 1), 0);
    }

    /** 12: "NONE for others." */
    private void statesOfPrior() {
        for (int w = 1; w <= 4; w++) {
            for (int h = 1; h <= 4; h++) {
                WrongEnd x = new WrongEnd(w, h);
                due("12: the first", x.prior(0), 1);
                due("12: the last", x.prior(8 * w * h - 1), 1);
                due("12: behind it", x.prior(8 * w * h), NONE);
                due("12: ahead of the first", x.prior(-1), NONE);
                due("12: least of all", x.prior(LOW), NONE);
                due("12: most of all", x.prior(HIGH), NONE);
            }
        }
    }

    /** 13: an HOUR is 0 .. 23; "(LENT, too)"; "NONE for others". */
    private void askedOfSees() {
        WrongEnd x = ruled(2, 1, "sees hour/3;slip hour-15;");
        due("13: none yet", x.sees(0, false, 0, 0, false), NONE);
        place(x, 1, 0);
        x.lend(1, true);
        for (int hour = 0; hour < 24; hour++) {
            due("13: at " + hour, x.sees(hour % 2, true, 15, hour, false), hour / 3);
            due("13: slip at " + hour, x.sees(hour % 2, true, 15, hour, true), Math.max(0, hour - 15));
        }
        for (boolean slip : new boolean[] {true, false}) {
            for (int wrong : new int[] {-1, 2, 7, 8, LOW, HIGH}) {
                due("13: telescope " + wrong, x.sees(wrong, false, 0, 0, slip), NONE);
            }
            for (int wrong : new int[] {-1, 16, 128, LOW, HIGH}) {
                due("13: state " + wrong, x.sees(0, false, wrong, 0, slip), NONE);
            }
            for (int wrong : new int[] {-1, 24, 25, LOW, HIGH}) {
                due("13: hour " + wrong, x.sees(0, false, 0, wrong, slip), NONE);
            }
        }
    }

    /** III: "it tells one more (of 9: 0) in place of that"; "10 - s, s or 0". */
    private void slipsToOneMore() {
        for (int seen = 0; seen <= 9; seen++) {
            for (int slip = 0; slip <= 9; slip++) {
                WrongEnd x = ruled(1, 1, "sees " + seen + ";slip " + slip + ";");
                place(x, 0);
                for (int tells = 0; tells <= 9; tells++) {
                    x.report(0, 0, tells);
                    int want = tells == seen ? 10 - slip : tells == (seen + 1) % 10 ? slip : 0;
                    due("16: " + seen + " seen, " + tells + " told, slip " + slip, x.weight(0, 1), want);
                    x.forget();
                }
            }
        }
    }

    /** III: REPORTS, "10 at most"; an HOUR is 0 .. 23, what it tells 0 .. 9. */
    private void tenReports() {
        WrongEnd x = new WrongEnd(1, 1);
        place(x, 0);
        for (int i = 0; i < 10; i++) {
            due("14: so many", x.about(5), i);
            due("14: not there yet", x.about(40 + i), UNKNOWN);
            due("14: number " + (i + 1), x.report(0, 23 - i, i), i + 1);
            due("14: told", x.about(40 + i), 10 * (23 - i) + i);
        }
        due("14: an 11th", x.report(0, 0, 0), NONE);
        due("14: and again", x.report(0, 23, 9), NONE);
        due("14: ten", x.about(5), 10);
        due("14: no 11th", x.about(50), UNKNOWN);
        for (int i = 0; i < 10; i++) {
            due("14: still there", x.about(40 + i), 10 * (23 - i) + i);
        }
        due("15: ten", x.forget(), 10);
        due("14: room again", x.report(0, 0, 0), 1);
    }

    /** 14: "NONE for others, if it is LENT, or there are 10." */
    private void refusedReports() {
        WrongEnd x = new WrongEnd(1, 1);
        due("14: none yet", x.report(0, 0, 0), NONE);
        place(x, 0, 0);
        int[][] wrong = {{-1, 0, 0}, {2, 0, 0}, {8, 0, 0}, {LOW, 0, 0}, {HIGH, 0, 0}, {0, -1, 0}, {0, 24, 0},
            {0, LOW, 0}, {0, HIGH, 0}, {0, 0, -1}, {0, 0, 10}, {0, 0, LOW}, {0, 0, HIGH}};
        for (int[] one : wrong) {
            due("14: report(" + one[0] + ", " + one[1] + ", " + one[2] + ")", x.report(one[0], one[1], one[2]), NONE);
            due("14: none came", x.about(5), 0);
        }
        x.lend(1, true);
        due("14: lent", x.report(1, 0, 0), NONE);
        due("14: none came", x.about(5), 0);
        due("14: the other", x.report(0, 0, 0), 1);
        x.lend(1, false);
        x.turn(1, true);
        due("14: home again", x.report(1, 23, 9), 2);
        x.lend(1, true);
        x.turn(1, false);
        due("14: its report stays, held as it was", x.about(41), 1739);
    }

    /** 15: "No REPORTS: how many there were." */
    private void forgotten() {
        WrongEnd x = new WrongEnd(1, 1);
        place(x, 0);
        for (int reports = 0; reports <= 10; reports++) {
            for (int i = 1; i <= reports; i++) {
                due("14: one more", x.report(0, 0, 1), i);
            }
            due("15: so many", x.forget(), reports);
            due("15: none", x.about(5), 0);
            due("15: none of them", x.about(40), UNKNOWN);
            due("15: nothing more", x.forget(), 0);
            due("16: as of none", x.weight(0, 0), 1);
            due("16: as of one", x.weight(0, 1), NONE);
        }
    }

    /** III: "AS OF k REPORTS (the first k)", k from 0 to all of them. */
    private void asOf() {
        WrongEnd x = ruled(1, 1, "prior size;sees 5;slip 4;");
        place(x, 0);
        long weight = 4;
        for (int reports = 0; reports <= 10; reports++) {
            due("16: as of all " + reports, x.weight(7, reports), weight);
            due("16: as of none", x.weight(7, 0), 4);
            for (int wrong : new int[] {reports + 1, -1, LOW, HIGH}) {
                due("16: as of " + wrong + " of " + reports, x.weight(7, wrong), NONE);
                due("17: as of " + wrong + " of " + reports, x.odds(wrong, NONE, NONE, NONE, 0), NONE);
                due("18: as of " + wrong + " of " + reports, x.likely(wrong), NONE);
            }
            due("18: as of all", x.likely(reports), 6);
            due("17: as of all", x.odds(reports, 0, 4, 1, 1), 5);
            x.report(0, reports, 5 + reports % 2);
            weight *= reports % 2 == 0 ? 6 : 4;
        }
        for (int wrong : new int[] {-1, 8, 9, LOW, HIGH}) {
            due("16: state " + wrong, x.weight(wrong, 0), NONE);
            due("16: state " + wrong, x.weight(wrong, 10), NONE);
        }
    }

    /** 17: a cell, a SIZE, PAINTS, each NONE for any. */
    private void oddsOfSome() {
        WrongEnd x = new WrongEnd(3, 2);
        for (int cell = -2; cell <= 6; cell++) {
            for (int size = -2; size <= 5; size++) {
                for (int paints = -2; paints <= 2; paints++) {
                    boolean known = cell >= -1 && cell < 6 && (size == -1 || size >= 1 && size <= 4)
                            && paints >= -1 && paints <= 1;
                    int lower = (cell == -1 ? 1 : 6) * (size == -1 ? 1 : 4) * (paints == -1 ? 1 : 2);
                    String name = "17: odds of " + cell + ", " + size + ", " + paints;
                    due(name, x.odds(0, cell, size, paints, 1), known ? lower : NONE);
                }
            }
        }
        for (int what : new int[] {-1, 2, 3, LOW, HIGH}) {
            due("17: what " + what, x.odds(0, 0, 1, 0, what), NONE);
        }
        for (int wrong : new int[] {LOW, HIGH}) {
            due("17: cell " + wrong, x.odds(0, wrong, 1, 0, 0), NONE);
            due("17: size " + wrong, x.odds(0, 0, wrong, 0, 0), NONE);
            due("17: paints " + wrong, x.odds(0, 0, 1, wrong, 0), NONE);
        }
    }

    /** 17: "NONE .. if all WEIGHTS are 0"; of none of some it is 0 by 1, of all 1 by 1. */
    private void oddsOfNothing() {
        WrongEnd x = ruled(2, 1, "prior x*6;sees size;");
        place(x, 0);
        due("17: upper of none", x.odds(0, 0, NONE, NONE, 0), 0);
        due("17: lower of none", x.odds(0, 0, NONE, NONE, 1), 1);
        due("17: upper of all", x.odds(0, 1, NONE, NONE, 0), 1);
        due("17: lower of all", x.odds(0, 1, NONE, NONE, 1), 1);
        due("17: upper, lowest terms", x.odds(0, 1, 1, NONE, 0), 1);
        due("17: lower, lowest terms", x.odds(0, 1, 1, NONE, 1), 4);
        x.report(0, 0, 5);
        for (int what = 0; what <= 1; what++) {
            due("17: all are 0", x.odds(1, NONE, NONE, NONE, what), NONE);
            due("17: all are 0", x.odds(1, 1, 4, 1, what), NONE);
            due("17: as of none they aren't", x.odds(0, NONE, NONE, NONE, what), 1);
        }
        WrongEnd none = ruled(4, 4, "prior -1;");
        due("17: no prior", none.odds(0, NONE, NONE, NONE, 0), NONE);
        due("17: no prior", none.odds(0, 3, 2, 1, 1), NONE);
    }

    /** III: "the lowest of like ones; none, if all are 0". */
    private void likelyOnes() {
        due("18: all alike", new WrongEnd(4, 4).likely(0), 0);
        due("18: the last alone", ruled(4, 4, "prior x*y*size*paints/36;").likely(0), 127);
        due("18: the last by one", ruled(4, 4, "prior 9+x*y*size*paints/36;").likely(0), 127);
        due("18: two alike", ruled(4, 4, "prior if x=3 and size=2?7:if y=3?7:6 end end;").likely(0), 26);
        due("18: all 0", ruled(4, 4, "prior 0;").likely(0), NONE);
        for (int state = 0; state < 16; state++) {
            String text = "prior if 8*x+2*size-2+paints=" + state + "?2:1 end;";
            due("18: state " + state, ruled(2, 1, text).likely(0), state);
        }
        WrongEnd x = ruled(1, 1, "sees size;slip paints*5;");
        place(x, 0);
        x.report(0, 0, 2);
        due("18: as of one", x.likely(1), 2);
        x.report(0, 0, 3);
        due("18: a slip", x.likely(2), 3);
        x.report(0, 0, 9);
        due("18: all 0", x.likely(3), NONE);
        due("18: not as of two", x.likely(2), 3);
        due("18: nor as of none", x.likely(0), 0);
        for (int wrong : new int[] {-1, 4, 10, 11, LOW, HIGH}) {
            due("18: k " + wrong, x.likely(wrong), NONE);
        }
    }

    /** III: "one or two unlike ones, not LENT"; 19: "NONE for others." */
    private void sureOfWhom() {
        WrongEnd x = ruled(2, 2, "sees x+2*y+scope+turned;");
        due("19: none yet", x.sure(0, NONE, 0), NONE);
        place(x, 0, 3);
        // Four cells are told apart by any one: 10 each, or 100 by two.
        for (int one = -2; one <= 5; one++) {
            boolean known = one >= 0 && one < 4;
            due("19: by " + one, x.sure(one, NONE, 0), known ? 40 : NONE);
            for (int other = -2; other <= 5; other++) {
                if (other != NONE) {
                    boolean both = known && other >= 0 && other < 4 && one / 2 != other / 2;
                    due("19: by " + one + " and " + other, x.sure(one, other, 23), both ? 400 : NONE);
                }
            }
        }
        for (int wrong : new int[] {-1, 24, LOW, HIGH}) {
            due("19: hour " + wrong, x.sure(0, NONE, wrong), NONE);
            due("19: hour " + wrong + " of two", x.sure(0, 2, wrong), NONE);
        }
        for (int wrong : new int[] {LOW, LOW + 1, -3, -2, 4, 5, 15, 16, 17, HIGH - 1, HIGH}) {
            due("19: by " + wrong, x.sure(wrong, NONE, 0), NONE);
            due("19: by " + wrong + " first", x.sure(wrong, 0, 0), NONE);
            due("19: by " + wrong + " second", x.sure(0, wrong, 0), NONE);
        }
        x.lend(1, true);
        for (int hold = 2; hold <= 3; hold++) {
            due("19: lent", x.sure(hold, NONE, 0), NONE);
            due("19: lent first", x.sure(hold, 0, 0), NONE);
            due("19: lent second", x.sure(0, hold, 0), NONE);
        }
        due("19: the other alone", x.sure(1, NONE, 0), 40);
    }

    private void sureOfAllThatCanBeTold() {
        WrongEnd ten = ruled(4, 3, "sees x+4*y;");
        place(ten, 0, 0);
        // Cells 9, 10 and 11 are seen as 9.
        due("19: ten things", ten.sure(0, NONE, 0), 100);
        due("19: ten of a hundred", ten.sure(0, 3, 0), 1000);
        WrongEnd grid = ruled(4, 4, "sees if scope=0?x*3:y*3 end;");
        place(grid, 0, 0);
        due("19: sixteen of a hundred", grid.sure(0, 2, 0), 1600);
        WrongEnd slips = ruled(1, 1, "prior if size=4?1:0 end;sees 9;slip 9;");
        place(slips, 0, 0);
        due("19: 9 and 0", slips.sure(0, NONE, 0), 10);
        due("19: 9 and 0, each with each", slips.sure(0, 2, 0), 100);
        WrongEnd none = ruled(1, 1, "prior 0;");
        place(none, 0, 0);
        due("19: all weights are 0", none.sure(0, NONE, 0), 0);
        due("19: all weights are 0, of two", none.sure(0, 2, 0), 0);
    }

    /** What is seen may be told as one more, too: there the other state is heard as well. */
    private void sureOfSlips() {
        for (int seen = 0; seen <= 9; seen++) {
            int more = seen == 9 ? 0 : seen + 1;
            for (int slip = 0; slip <= 9; slip++) {
                WrongEnd x = ruled(1, 1, "prior if paints=0?3-size:0 end;sees if size=1?" + seen + ":" + more
                        + " end;slip if size=1?" + slip + ":0 end;");
                place(x, 0, 0);
                // Of weight 2: one that sees it and may slip; of weight 1: one that sees one more.
                int want = 2 * (10 - slip) + Math.max(2 * slip, 10);
                due("19: " + seen + " seen, slip " + slip, x.sure(0, NONE, 0), want);
                int both = 2 * (10 - slip) * (10 - slip) + 2 * 2 * (10 - slip) * slip + Math.max(2 * slip * slip, 100);
                due("19: " + seen + " seen, slip " + slip + ", of two", x.sure(2, 1, 0), both);
            }
        }
    }

    /** By far alone: four things are told from an end of a row of four cells, three from its middle. */
    private void sureFromTheirCells() {
        WrongEnd x = ruled(4, 1, "sees far;");
        int[] cells = {1, 0, 2, 3, 1, 2, 0, 3};
        place(x, cells);
        for (int hold = 0; hold < 16; hold++) {
            int cell = cells[hold / 2];
            due("19: from " + cell, x.sure(hold, NONE, 0), cell % 3 == 0 ? 40 : 30);
            for (int other = 0; other < 16; other++) {
                int second = cells[other / 2];
                boolean threeThings = cell == second && cell % 3 != 0;
                long want = hold / 2 == other / 2 ? NONE : threeThings ? 300 : 400;
                due("19: from " + cell + " and " + second, x.sure(hold, other, 0), want);
            }
        }
    }

    /** III: "of like ones the lowest", from the first hold to the last. */
    private void askedAlone() {
        WrongEnd x = new WrongEnd(2, 2);
        due("20: nobody", x.ask(0, false, 0), NONE);
        place(x, 0, 1, 2, 3, 0, 1, 2, 3);
        for (int best = 0; best < 16; best++) {
            WrongEnd y = ruled(2, 2, "sees if 2*scope+turned=" + best + "?size:0 end;");
            place(y, 0, 1, 2, 3, 0, 1, 2, 3);
            due("20: the surest", y.ask(0, false, 0), best);
            y.lend(best / 2, true);
            due("20: not lent", y.ask(0, false, 0), best < 2 ? 2 : 0);
            y.lend(best / 2, false);
            y.turn(best / 2, best % 2 == 0);
            due("20: however it is held now", y.ask(0, false, 0), best);
        }
        for (int lent = 0; lent < 8; lent++) {
            due("20: all alike", x.ask(23, false, 0), 2 * lent);
            x.lend(lent, true);
        }
        due("20: all lent", x.ask(23, false, 0), NONE);
    }

    /** III: "both (the lower number first), of like ones the lowest first, then second". */
    private void askedInTwos() {
        int[][] pairs = {{0, 2}, {0, 3}, {1, 2}, {1, 15}, {3, 4}, {6, 9}, {12, 14}, {12, 15}, {13, 15}};
        for (int[] pair : pairs) {
            WrongEnd x = ruled(2, 2, "sees if 2*scope+turned=" + pair[0] + "?x:if 2*scope+turned=" + pair[1] + "?y:0 end end;");
            place(x, 0, 0, 0, 0, 0, 0, 0, 0);
            due("20: first of " + pair[0] + ", " + pair[1], x.ask(0, true, 0), pair[0]);
            due("20: second of " + pair[0] + ", " + pair[1], x.ask(0, true, 1), pair[1]);
        }
        WrongEnd x = new WrongEnd(1, 1);
        place(x, 0, 0, 0, 0, 0, 0, 0, 0);
        for (int lent = 0; lent < 7; lent++) {
            due("20: all alike, first", x.ask(0, true, 0), 2 * lent);
            due("20: all alike, second", x.ask(0, true, 1), 2 * lent + 2);
            x.lend(lent, true);
        }
        due("20: one is no two", x.ask(0, true, 0), NONE);
        due("20: one is no two", x.ask(0, true, 1), NONE);
        due("20: but one", x.ask(0, false, 0), 14);
        WrongEnd apart = new WrongEnd(1, 1);
        place(apart, 0, 0, 0);
        apart.lend(1, true);
        due("20: past the lent one, first", apart.ask(0, true, 0), 0);
        due("20: past the lent one, second", apart.ask(0, true, 1), 4);
    }

    private void askedAtTheirCells() {
        int[][] lent = {{}, {4}, {4, 6}, {0, 4, 6}, {0, 1, 2, 3, 5, 7}};
        int[] alone = {8, 12, 0, 2, 8};
        int[][] two = {{0, 2}, {0, 2}, {0, 2}, {2, 4}, {8, 12}};
        for (int i = 0; i < lent.length; i++) {
            WrongEnd x = ruled(4, 1, "sees far;");
            place(x, 1, 2, 1, 2, 0, 1, 3, 2);
            for (int scope : lent[i]) {
                x.lend(scope, true);
            }
            due("20: from an end, if there is one", x.ask(0, false, 0), alone[i]);
            due("20: from two cells, first", x.ask(0, true, 0), two[i][0]);
            due("20: from two cells, second", x.ask(0, true, 1), two[i][1]);
        }
        WrongEnd x = ruled(4, 1, "sees far;");
        place(x, 1, 1, 1, 2);
        due("20: not two at one cell, first", x.ask(0, true, 0), 0);
        due("20: not two at one cell, second", x.ask(0, true, 1), 6);
        x.lend(3, true);
        due("20: unless there is no other, first", x.ask(0, true, 0), 0);
        due("20: unless there is no other, second", x.ask(0, true, 1), 2);
    }

    private void asksOfOthers() {
        WrongEnd x = new WrongEnd(1, 1);
        place(x, 0);
        due("20: no two of one", x.ask(0, true, 0), NONE);
        x.scope(0);
        for (int what : new int[] {-1, 1, 2, LOW, HIGH}) {
            due("20: one, what " + what, x.ask(0, false, what), NONE);
        }
        for (int what : new int[] {-1, 2, 3, LOW, HIGH}) {
            due("20: two, what " + what, x.ask(0, true, what), NONE);
        }
        for (int hour : new int[] {-1, 24, 25, LOW, HIGH}) {
            due("20: hour " + hour, x.ask(hour, false, 0), NONE);
            due("20: hour " + hour + " of two", x.ask(hour, true, 1), NONE);
            due("21: hour " + hour, x.eighth(hour), NONE);
        }
        due("20: hour 0", x.ask(0, false, 0), 0);
        due("20: hour 23", x.ask(23, true, 1), 2);
        due("21: hour 0", x.eighth(0), 0);
        due("21: hour 23", x.eighth(23), 0);
    }

    /** III: "its number the next one, not TURNED .. of like ones the lowest"; 21: "NONE: there are 8". */
    private void whereAnEighthStands() {
        for (int scopes = 0; scopes < 8; scopes++) {
            for (int cell = 0; cell < 4; cell++) {
                // Only from his own cell, by this number and at this hour, is anything told.
                WrongEnd x = ruled(2, 2, "prior if x+2*y=" + cell + " and paints=0?9:0 end;"
                        + "sees if far=0 and scope=" + scopes + " and turned=0 and hour=23?size:0 end;");
                for (int i = 0; i < scopes; i++) {
                    x.scope(i % 4);
                    x.turn(i, true);
                    x.lend(i, i % 2 == 0);
                }
                due("21: number " + scopes + " at " + cell, x.eighth(23), cell);
                due("21: at another hour all are alike", x.eighth(22), 0);
                due("21: none has come", x.about(2), scopes);
            }
        }
        WrongEnd full = new WrongEnd(2, 2);
        place(full, 0, 1, 2, 3, 3, 2, 1);
        due("21: there are 7", full.eighth(0), 0);
        due("3: the eighth", full.scope(0), 7);
        due("21: there are 8", full.eighth(0), NONE);
        full.lend(7, true);
        due("21: there are, though one is lent", full.eighth(0), NONE);
        due("21: of one cell", new WrongEnd(1, 1).eighth(0), 0);
        due("21: the 16th cell", ruled(4, 4, "prior x*y/9;sees if far=0?size:0 end;").eighth(0), 15);
        // From a corner 7 things are told, from the middle 5, from elsewhere 6.
        due("21: of four corners", ruled(4, 4, "sees far;").eighth(0), 0);
        due("21: no cell behind the last", ruled(2, 1, "sees far/2;").eighth(0), 0);
        due("21: of two like cells", ruled(4, 1, "sees if far=0?1:0 end;prior x*(3-x);").eighth(0), 1);
    }

    /** III: "n 1 to 5"; 22: "NONE for others, and if all WEIGHTS are 0". */
    private void actsOneToFive() {
        WrongEnd x = ruled(1, 1, "cost 14-2*act;");
        for (int n = -1; n <= 7; n++) {
            boolean known = n >= 1 && n <= 5;
            due("22: which of " + n, x.does(n, 0), known ? n - 1 : NONE);
            due("22: upper of " + n, x.does(n, 1), known ? 16 - 2 * n : NONE);
            due("22: lower of " + n, x.does(n, 2), known ? 1 : NONE);
        }
        for (int wrong : new int[] {LOW, HIGH}) {
            due("22: n " + wrong, x.does(wrong, 0), NONE);
            due("22: what " + wrong, x.does(5, wrong), NONE);
        }
        due("22: what -1", x.does(5, -1), NONE);
        due("22: what 3", x.does(5, 3), NONE);
        place(x, 0);
        x.report(0, 0, 9);
        for (int what = 0; what <= 2; what++) {
            due("22: all are 0", x.does(5, what), NONE);
        }
        x.forget();
        due("22: as of all, so none now", x.does(5, 0), 4);
    }

    /** III: "of like ones the lowest; what it comes to by all WEIGHTS, in lowest terms". */
    private void costsThatAreLike() {
        WrongEnd last = ruled(1, 1, "cost 1-act/4;");
        due("22: the fifth alone is less", last.does(5, 0), 4);
        due("22: it comes to 0", last.does(5, 1), 0);
        due("22: by 1", last.does(5, 2), 1);
        due("22: of four like ones", last.does(4, 0), 0);
        WrongEnd like = ruled(1, 1, "prior 3;cost if act=0?size:if act=1?5-size:3*paints end end;");
        due("22: like by all of them", like.does(2, 0), 0);
        due("22: upper", like.does(2, 1), 5);
        due("22: lower", like.does(2, 2), 2);
        due("22: the third is less", like.does(3, 0), 2);
        due("22: upper", like.does(3, 1), 3);
        due("22: lower", like.does(3, 2), 2);
        WrongEnd bounded = ruled(1, 1, "cost if act=0?1000:if act=1?999:-act end end;");
        due("22: 999 at most, so alike", bounded.does(2, 0), 0);
        due("22: 999", bounded.does(2, 1), 999);
        due("22: 0 at least, so alike", bounded.does(5, 0), 2);
        due("22: 0", bounded.does(5, 1), 0);
    }

    /** III: "X is SEED * 3 + 1 .. X mod 10 is less than SLIP, X being (X * 179 + 83) mod 30071 then". */
    private void drawsOfEverySlip() {
        for (int slip = 0; slip <= 9; slip++) {
            WrongEnd x = ruled(1, 1, "sees 9*paints;slip " + slip + ";");
            place(x, 0, 0, 0, 0, 0, 0, 0, 0);
            for (int seed : new int[] {0, 1, 4567, 9999}) {
                int draw = seed * 3 + 1;
                for (int k = 0; k < 80; k++) {
                    boolean slips = draw % 10 < slip;
                    int paints = k % 2;
                    int want = paints == 0 ? slips ? 1 : 0 : slips ? 0 : 9;
                    due("23: slip " + slip + ", seed " + seed + ", k " + k, x.spied(seed, paints, 0, 10, k), want);
                    draw = (draw * 179 + 83) % 30071;
                }
                due("23: no 81st", x.spied(seed, 0, 0, 10, 80), NONE);
            }
            due("23: seed 10000", x.spied(10000, 0, 0, 1, 0), NONE);
            due("23: seed -1", x.spied(-1, 0, 0, 1, 0), NONE);
        }
    }

    /** III: "HOURS from one on, one behind the other (by 24)". */
    private void hoursByTwentyFour() {
        WrongEnd x = ruled(1, 1, "sees hour/3;slip 0;");
        place(x, 0);
        for (int hour = 0; hour < 24; hour++) {
            for (int k = 0; k < 10; k++) {
                due("23: from " + hour + " on, " + k, x.spied(7, 0, hour, 10, k), (hour + k) % 24 / 3);
            }
            due("23: no 11th", x.spied(7, 0, hour, 10, 10), NONE);
        }
        WrongEnd y = ruled(1, 1, "sees if hour=0?9:if turned=1?scope+1:0 end end;slip 9*turned;");
        place(y, 0, 0, 0);
        y.lend(0, true);
        y.turn(2, true);
        // X is 1, 262, 16910, 19873 for seed 0: 1 never slips, 2 slips.
        int[] told = {0, 4, 9, 0};
        for (int k = 0; k < 4; k++) {
            due("23: from 23 on by two, " + k, y.spied(0, 0, 23, 2, k), told[k]);
        }
        due("23: no fifth", y.spied(0, 0, 23, 2, 4), NONE);
    }

    /** 23: "NONE: there is none such, and for others." */
    private void spiedByNobody() {
        WrongEnd x = new WrongEnd(2, 1);
        due("23: none yet", x.spied(0, 0, 0, 1, 0), NONE);
        place(x, 0, 1);
        for (int n = -1; n <= 12; n++) {
            boolean known = n >= 1 && n <= 10;
            due("23: the first of " + n, x.spied(0, 4, 0, n, 0), known ? 3 : NONE);
            due("23: the last of " + n, x.spied(0, 4, 0, n, 2 * n - 1), known ? 3 : NONE);
            due("23: behind the last of " + n, x.spied(0, 4, 0, n, 2 * n), NONE);
        }
        for (int wrong : new int[] {LOW, HIGH, HIGH / 2, HIGH / 2 + 1}) {
            due("23: seed " + wrong, x.spied(wrong, 0, 0, 1, 0), NONE);
            due("23: state " + wrong, x.spied(0, wrong, 0, 1, 0), NONE);
            due("23: hour " + wrong, x.spied(0, 0, wrong, 1, 0), NONE);
            due("23: n " + wrong, x.spied(0, 0, 0, wrong, 0), NONE);
            due("23: k " + wrong, x.spied(0, 0, 0, 10, wrong), NONE);
        }
        due("23: state -1", x.spied(0, -1, 0, 1, 0), NONE);
        due("23: state 15", x.spied(0, 15, 0, 1, 0), 4);
        due("23: state 16", x.spied(0, 16, 0, 1, 0), NONE);
        due("23: hour -1", x.spied(0, 0, -1, 1, 0), NONE);
        due("23: hour 23", x.spied(0, 0, 23, 1, 0), 1);
        due("23: hour 24", x.spied(0, 0, 24, 1, 0), NONE);
        due("23: k -1", x.spied(0, 0, 0, 1, -1), NONE);
        x.lend(0, true);
        due("23: one is left", x.spied(0, 4, 0, 1, 0), 3);
        due("23: no second", x.spied(0, 4, 0, 1, 1), NONE);
        x.lend(1, true);
        due("23: all lent", x.spied(0, 4, 0, 1, 0), NONE);
        due("23: no report has come", x.about(5), 0);
    }

    /** The most that can be: nothing wraps around in 64 bits. */
    private void greatestNumbers() {
        WrongEnd x = ruled(4, 4, "prior 99;sees 5;cost 998+x/3;");
        place(x, 0, 0);
        for (int i = 0; i < 10; i++) {
            x.report(0, 0, 5);
        }
        long weight = 990000000000L;
        due("16: the greatest", x.weight(127, 10), weight);
        due("19: the greatest of one", x.sure(0, NONE, 0), 10 * weight);
        due("19: the greatest of two", x.sure(0, 2, 0), 100 * weight);
        due("17: one of all", x.odds(10, 15, 4, 1, 1), 128);
        due("22: upper", x.does(5, 1), 3993);
        due("22: lower", x.does(5, 2), 4);
        WrongEnd odd = ruled(4, 4, "prior 99-paints*size*x*y/36;sees 5;cost 999-paints*size*x*y/36;");
        place(odd, 0);
        for (int i = 0; i < 10; i++) {
            odd.report(0, 0, 5);
        }
        // 127 states of 99 and one of 98: 12671 in all; the one costs 998, the others 999.
        due("17: upper of one", odd.odds(10, 15, 4, 1, 0), 98);
        due("17: lower of one", odd.odds(10, 15, 4, 1, 1), 12671);
        due("22: upper", odd.does(1, 1), 127L * 99 * 999 + 98L * 998);
        due("22: lower", odd.does(1, 2), 12671);
    }
}
