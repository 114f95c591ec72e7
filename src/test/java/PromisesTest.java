/** The promises 1 to 26 of the document, one method each, with answers worked out by hand. */
public final class PromisesTest extends Sheet {
    public static void main(String[] args) {
        PromisesTest test = new PromisesTest();
        test.newObject();
        test.hill();
        test.scope();
        test.turn();
        test.lend();
        test.undo();
        test.feed();
        test.end();
        test.text();
        test.fault();
        test.faultsOfDepth();
        test.by();
        test.prior();
        test.sums();
        test.questions();
        test.sees();
        test.report();
        test.forget();
        test.weight();
        test.odds();
        test.likely();
        test.sure();
        test.ask();
        test.eighth();
        test.does();
        test.spied();
        test.image();
        test.back();
        test.about();
        test.greatNumbers();
        test.checks.finish("PromisesTest");
    }

    private void newObject() {
        int[][] sizes = {{3, 2, 3, 2}, {1, 4, 1, 4}, {0, 5, 1, 4}, {-7, 100, 1, 4}, {LOW, HIGH, 1, 4}, {HIGH, LOW, 4, 1}};
        for (int[] size : sizes) {
            WrongEnd x = new WrongEnd(size[0], size[1]);
            due("1: W", x.about(0), size[2]);
            due("1: H", x.about(1), size[3]);
            int[] rest = {0, 0, NONE, 0, 0, 0};
            for (int i = 0; i < rest.length; i++) {
                due("1: about(" + (i + 2) + ")", x.about(i + 2), rest[i]);
            }
            due("1: last hill", x.about(9 + size[2] * size[3]), 0);
            due("1: no hill more", x.about(10 + size[2] * size[3]), -2);
        }
        WrongEnd x = ruled(2, 2, "prior 7;");
        place(x, 3);
        x.hill(1, 5);
        x.turn(0, true);
        x.report(0, 1, 1);
        due("1: back to the new object", x.back(), 0);
        int[] fresh = {2, 2, 0, 0, NONE, 0, 0, 0};
        for (int i = 0; i < fresh.length; i++) {
            due("1: again about(" + i + ")", x.about(i), fresh[i]);
        }
        due("1: again hill", x.about(11), 0);
        due("1: again prior", x.prior(0), 1);
    }

    private void hill() {
        WrongEnd x = ruled(3, 2, "prior hill;");
        due("2: hill(5, 9)", x.hill(5, 9), true);
        due("2: hill(0, 1)", x.hill(0, 1), true);
        due("2: told", x.about(15), 9);
        due("2: in a text", x.prior(40), 9);
        due("2: of another cell", x.prior(39), 0);
        due("2: hill(0, 0)", x.hill(0, 0), true);
        due("2: lowered", x.about(10), 0);
        due("2: hill(6, 1)", x.hill(6, 1), false);
        due("2: hill(-1, 1)", x.hill(-1, 1), false);
        due("2: hill(5, 10)", x.hill(5, 10), false);
        due("2: hill(5, -1)", x.hill(5, -1), false);
        for (int wrong : WRONG) {
            due("2: wrong cell", x.hill(wrong, 3), false);
            due("2: wrong height", x.hill(5, wrong), false);
        }
        due("2: unchanged", x.about(15), 9);
        due("2: no step", x.about(6), 0);
    }

    private void scope() {
        WrongEnd x = new WrongEnd(4, 3);
        due("3: scope(-1)", x.scope(-1), NONE);
        due("3: scope(12)", x.scope(12), NONE);
        for (int wrong : WRONG) {
            due("3: wrong cell", x.scope(wrong), NONE);
        }
        due("3: none came", x.about(2), 0);
        place(x, 11, 0, 5, 5, 1, 2, 3, 4);
        due("3: the ninth", x.scope(0), NONE);
        due("3: eight", x.about(2), 8);
        due("3: cell of 0", x.about(30), 1100);
        due("3: cell of 3", x.about(33), 500);
        due("3: cell of 7", x.about(37), 400);
    }

    private void turn() {
        WrongEnd x = new WrongEnd(2, 1);
        due("4: none yet", x.turn(0, true), false);
        place(x, 1, 0);
        due("4: turn(0, true)", x.turn(0, true), true);
        due("4: told", x.about(30), 110);
        due("4: the other", x.about(31), 0);
        due("4: as it was", x.turn(0, true), true);
        due("4: one step", x.about(6), 1);
        due("4: back", x.turn(0, false), true);
        due("4: two steps", x.about(6), 2);
        due("4: told", x.about(30), 100);
        due("4: turn(1, false)", x.turn(1, false), true);
        due("4: no step more", x.about(6), 2);
        due("4: turn(2, true)", x.turn(2, true), false);
        due("4: turn(-1, true)", x.turn(-1, true), false);
        for (int wrong : WRONG) {
            due("4: wrong", x.turn(wrong, true), false);
        }
        x.lend(1, true);
        due("4: lent, too", x.turn(1, true), true);
        due("4: both", x.about(31), 11);
    }

    private void lend() {
        WrongEnd x = new WrongEnd(2, 1);
        due("5: none yet", x.lend(0, true), false);
        place(x, 1, 0);
        due("5: lend(1, true)", x.lend(1, true), true);
        due("5: told", x.about(31), 1);
        due("5: as it was", x.lend(1, true), true);
        due("5: one step", x.about(6), 1);
        due("5: no report", x.report(1, 0, 0), NONE);
        due("5: back", x.lend(1, false), true);
        due("5: a report", x.report(1, 0, 0), 1);
        due("5: lend(2, true)", x.lend(2, true), false);
        due("5: lend(-1, true)", x.lend(-1, true), false);
        for (int wrong : WRONG) {
            due("5: wrong", x.lend(wrong, true), false);
        }
        due("5: two steps", x.about(6), 2);
    }

    private void undo() {
        WrongEnd x = new WrongEnd(2, 1);
        due("6: none", x.undo(), NONE);
        place(x, 0, 1, 1);
        x.turn(2, true);
        x.lend(1, true);
        x.lend(2, true);
        x.turn(2, false);
        due("6: 2 is turned again", x.undo(), 2);
        due("6: told", x.about(32), 111);
        due("6: 2 isn't lent", x.undo(), 2);
        due("6: told", x.about(32), 110);
        due("6: 1 isn't lent", x.undo(), 1);
        due("6: told", x.about(31), 100);
        due("6: 2 isn't turned", x.undo(), 2);
        due("6: told", x.about(32), 100);
        due("6: no more", x.undo(), NONE);
        latestTwenty();
    }

    private void latestTwenty() {
        WrongEnd x = new WrongEnd(2, 1);
        place(x, 0, 0);
        x.turn(1, true);
        for (int i = 0; i < 20; i++) {
            x.turn(0, i % 2 == 0);
        }
        due("6: twenty can be", x.about(6), 20);
        for (int i = 19; i >= 0; i--) {
            due("6: step " + i, x.undo(), 0);
            due("6: is as before it", x.about(30), i % 2 == 0 ? 0 : 10);
            due("6: left", x.about(6), i);
        }
        due("6: the 21st can't", x.undo(), NONE);
        due("6: so it stays", x.about(31), 10);
        x.turn(0, true);
        due("6: taking back is no step", x.about(6), 1);
        due("6: a new one", x.undo(), 0);
        turningsAndLendings();
    }

    /** Of 27 steps of eight telescopes, each a turning or a lending, the latest 20 go back in their order. */
    private void turningsAndLendings() {
        WrongEnd x = new WrongEnd(1, 1);
        place(x, 0, 0, 0, 0, 0, 0, 0, 0);
        int[] scopes = new int[27];
        int[] before = new int[27];
        for (int i = 0; i < 27; i++) {
            scopes[i] = i * 5 % 8;
            before[i] = x.about(30 + scopes[i]);
            if (i * i % 3 == 0) {
                x.lend(scopes[i], before[i] % 10 == 0);
            } else {
                x.turn(scopes[i], before[i] < 10);
            }
        }
        for (int i = 26; i >= 7; i--) {
            due("6: mixed step " + i, x.undo(), scopes[i]);
            due("6: mixed step " + i + " is taken back", x.about(30 + scopes[i]), before[i]);
        }
        due("6: no mixed step more", x.undo(), NONE);
    }

    private void feed() {
        WrongEnd x = new WrongEnd(1, 1);
        for (int i = 1; i <= 15; i++) {
            due("7: feed " + i, x.feed(-1, LOW, HIGH, 0, 1), 20 * i);
        }
        due("7: too many", x.feed(0, 0, 0, 0, 0), NONE);
        due("7: none came", x.about(7), 300);
        x.end(281);
        due("7: 281 and 20", x.feed(0, 0, 0, 0, 0), NONE);
        due("7: still 281", x.about(7), 281);
        x.end(280);
        due("7: 280 and 20", x.feed(0, 0, 0, 0, 0), 300);
        x.end(0);
        // "prior 1234/100+size;" needs each byte in its place.
        due("7: a text", x.feed(0x7072696f, 0x72203132, 0x33342f31, 0x30302b73, 0x697a653b), 20);
        due("7: is read", x.text(), 0);
        x.by(0);
        due("7: and right", x.prior(2), 14);
        x.feed(0x20202020, 0x20202020, 0x20202020, 0x20202020, 0x20202080);
        x.text();
        due("7: a byte above 127", x.fault(1), 19);
    }

    private void end() {
        WrongEnd x = new WrongEnd(1, 1);
        due("8: end(0)", x.end(0), 0);
        due("8: end(1)", x.end(1), NONE);
        due("8: end(-1)", x.end(-1), NONE);
        x.feed(0, 0, 0, 0, 0);
        for (int wrong : WRONG) {
            due("8: wrong", x.end(wrong), NONE);
        }
        due("8: end(21)", x.end(21), NONE);
        due("8: nothing done", x.about(7), 20);
        due("8: end(20)", x.end(20), 20);
        due("8: end(7)", x.end(7), 7);
        due("8: end(8)", x.end(8), NONE);
        due("8: seven", x.about(7), 7);
        // Bytes that were cut off don't come again.
        Feeder.lay(x, "prior 1;?");
        x.end(8);
        due("8: the first 8 alone", x.text(), 0);
    }

    private void text() {
        WrongEnd x = new WrongEnd(1, 1);
        due("9: an empty one", x.text(), 0);
        due("9: blanks", Feeder.text(x, " \n \n"), 1);
        due("9: empty then", x.about(7), 0);
        due("9: a fault", Feeder.text(x, "prior"), NONE);
        due("9: empty then, too", x.about(7), 0);
        due("9: still two", x.about(3), 2);
        due("9: all clauses", Feeder.text(x, "cost 1;slip 2;sees 3;prior 4;"), 2);
        due("9: 300 bytes", Feeder.text(x, "prior" + " ".repeat(293) + "5;"), 3);
        due("9: four", x.about(3), 4);
        Feeder.lay(x, "prior ?");
        due("9: there are 4", x.text(), NONE);
        due("9: the tape stays", x.about(7), 7);
        due("9: it was not read", x.fault(0), 0);
        x.by(2);
        due("9: of the third", x.prior(0), 4);
        x.by(3);
        due("9: of the fourth", x.prior(0), 5);
        x.back();
        due("9: the tape stays still", x.about(7), 7);
        due("9: now there is room", x.text(), NONE);
        due("9: it was read", x.fault(0), 1);
    }

    private void fault() {
        WrongEnd x = new WrongEnd(1, 1);
        for (int what = -2; what < 4; what++) {
            due("10: ahead of any", x.fault(what), NONE);
        }
        faulty("", 0, NONE);
        faulty("prior x;", 0, NONE);
        for (int wrong : WRONG) {
            due("10: wrong", x.fault(wrong), NONE);
        }
        faulty("x", 1, 0);
        faulty("  5", 1, 2);
        faulty(";", 1, 0);
        faulty("Prior 1;", 1, 0);
        faulty("prior1;", 0, NONE);
        faulty("prior1end;", 1, 6);
        faulty("prior", 1, 5);
        faulty("prior  \n ", 1, 9);
        faulty("prior 1  ", 1, 9);
        faulty("prior ;", 1, 6);
        faulty("prior \t1;", 1, 6);
        faulty("prior 1\r;", 1, 7);
        faulty("prior prior;", 1, 6);
        faulty("prior X;", 1, 6);
        faulty("prior sizes;", 1, 6);
        faulty("prior siz;", 1, 6);
        faulty("prior 1 + ;", 1, 10);
        faulty("prior 1 * + 1;", 1, 10);
        faulty("prior +1;", 1, 6);
        faulty("prior (1;", 1, 8);
        faulty("prior 1);", 1, 7);
        faulty("prior 1 2;", 1, 8);
        faulty("prior 1; 2", 1, 9);
        faulty("prior 1;;", 1, 8);
        faulty("prior 1 < 2;", 1, 8);
        faulty("prior not 1;", 1, 6);
        faulty("prior if 1 ? 1 : 2 end;", 1, 11);
        faulty("prior if (1 = 1) ? 1 : 2 end;", 1, 12);
        faulty("prior if 1 < = 1 ? 1 : 2 end;", 1, 13);
        faulty("prior if 1 =< 1 ? 1 : 2 end;", 1, 12);
        faulty("prior if 1 < 1 < 1 ? 1 : 2 end;", 1, 15);
        faulty("prior if 1 = 1 : 1 ? 2 end;", 1, 15);
        faulty("prior if 1 = 1 ? 1 end;", 1, 19);
        faulty("prior if 1 = 1 ? 1 : 2;", 1, 22);
        faulty("prior if 1 = 1 or ? 1 : 2 end;", 1, 18);
        faulty("prior if 1 = 1 and or 1 = 1 ? 1 : 2 end;", 1, 19);
        faulty("prior if or = 1 ? 1 : 2 end;", 1, 9);
        faulty("prior 1 ! 1;", 1, 8);
        faulty("prior 1" + (char) 233 + ";", 1, 7);
        faulty("prior 1" + (char) 0 + ";", 1, 7);
        faulty("prior 9999;", 0, NONE);
    }

    private void faultsOfDepth() {
        faulty("prior 10000;", 2, 6);
        faulty("prior 00009999;", 0, NONE);
        faulty("prior 99999999999999999999999999;", 2, 6);
        faulty("prior 4294967297;", 2, 6);
        faulty("prior 1 10000;", 1, 8);
        faulty("prior (10000 x;", 2, 7);
        faulty("prior ((((((((1))))))));", 0, NONE);
        faulty("prior (((((((((1)))))))));", 3, 14);
        faulty("prior --------1;", 0, NONE);
        faulty("prior ---------1;", 3, 14);
        faulty("prior 1---------1;", 0, NONE);
        faulty("prior 1----------1;", 3, 16);
        faulty("prior (-(-(-(-1))))+(-(-(-(-1))));", 0, NONE);
        faulty("prior (-(-(-(-(1)))))", 3, 14);
        faulty("prior -1+-1+-1+-1+-1+-1+-1+-1+-1+-1;", 0, NONE);
        faulty("prior (1)*(1)*(1)*(1)*(1)*(1)*(1)*(1)*(1);", 0, NONE);
        faulty("prior if not not not not not not not 1=1?1:2 end;", 0, NONE);
        faulty("prior if not not not not not not not not 1=1?1:2 end;", 3, 37);
        faulty("prior if not not not not not not not (1)=1?1:2 end;", 3, 37);
        faulty("prior if not not not not not not not 1=(1)?1:2 end;", 3, 39);
        faulty("prior if not not not not not not not 1=1 and not 1=1?(1):-2 end;", 0, NONE);
        faulty("prior " + "if 1=1?".repeat(9), 3, 62);
        faulty("prior " + "if 1=1?".repeat(8) + "1" + ":2 end".repeat(8) + ";", 0, NONE);
        faulty("prior ((((((((1)))))))) (", 1, 24);
        faulty("prior 1; prior 2;", 4, 9);
        faulty("prior 1; prior", 4, 9);
        faulty("sees 1;slip 1;cost 1;prior 1;cost", 4, 29);
        faulty("prior 1 prior 2;", 1, 8);
        for (String name : new String[] {"hour", "scope", "turned", "far"}) {
            faulty("prior " + name + ";", 5, 6);
            faulty("cost 1+" + name + ";", 5, 7);
            faulty("sees " + name + ";slip " + name + ";", 0, NONE);
            faulty("prior 1 " + name + ";", 1, 8);
        }
        for (String name : new String[] {"x", "y", "size", "paints", "hill"}) {
            faulty("prior " + name + ";sees " + name + ";slip " + name + ";cost " + name + ";", 0, NONE);
        }
        faulty("prior act;", 5, 6);
        faulty("sees act;", 5, 5);
        faulty("slip act;", 5, 5);
        faulty("cost act;", 0, NONE);
        faulty("cost act;slip act", 5, 14);
    }

    private void by() {
        WrongEnd x = new WrongEnd(1, 1);
        due("11: by(0), none yet", x.by(0), false);
        due("11: by(NONE)", x.by(NONE), true);
        Feeder.text(x, "prior 2;");
        Feeder.text(x, "prior 3;");
        due("11: none rules", x.prior(0), 1);
        due("11: by(0)", x.by(0), true);
        due("11: the first", x.prior(0), 2);
        due("11: by(1)", x.by(1), true);
        due("11: the second", x.prior(0), 3);
        due("11: told", x.about(4), 1);
        due("11: by(2)", x.by(2), false);
        for (int wrong : WRONG) {
            due("11: wrong", x.by(wrong), false);
        }
        due("11: the second still", x.about(4), 1);
        due("11: by(NONE)", x.by(NONE), true);
        due("11: none", x.about(4), NONE);
        due("11: none rules", x.prior(0), 1);
    }

    private void prior() {
        WrongEnd x = ruled(3, 2, "prior 40*y+10*x+2*size+paints;");
        due("12: state 0", x.prior(0), 2);
        due("12: paints", x.prior(1), 3);
        due("12: size 4", x.prior(6), 8);
        due("12: cell 1", x.prior(8), 12);
        due("12: cell 5, size 3, paints", x.prior(45), 67);
        due("12: the last", x.prior(47), 69);
        due("12: one more", x.prior(48), NONE);
        due("12: -1", x.prior(-1), NONE);
        for (int wrong : WRONG) {
            due("12: wrong", x.prior(wrong), NONE);
        }
        due("12: 99 at most", ruled(1, 1, "prior 100;").prior(0), 99);
        due("12: 0 at least", ruled(1, 1, "prior -1;").prior(0), 0);
        due("12: 0", ruled(1, 1, "prior 0;").prior(0), 0);
        due("12: 99", ruled(1, 1, "prior 99;").prior(0), 99);
        due("12: without", ruled(1, 1, "sees 5;").prior(0), 1);
    }

    private void sums() {
        worked("9-3-2", 4);
        worked("64/4/2", 8);
        worked("64/4*2", 32);
        worked("2+3*4", 14);
        worked("(2+3)*4", 20);
        worked("20-2*3-4/2", 12);
        worked("7/2", 3);
        worked("-7/2+10", 7);
        worked("7/-2+10", 7);
        worked("-7/-2", 3);
        worked("5/0", 0);
        worked("0/0+7", 7);
        worked("-(2-9)", 7);
        worked("--7", 7);
        worked("-3*-4", 12);
        worked("5--3", 8);
        worked("-2+5", 3);
        worked("9999*9999/9999/2", 50);
        worked("9999*9999+9999-999*1000-950", 50);
        worked("5+9999*9999-999*1000-999", 1);
        worked("-9999*9999-5+1000*1000+7", 7);
        worked("-5-9999*9999+1000*1000+7", 7);
        worked("9999*-9999+1000*1000+3", 3);
        worked("-(9999*9999)+1000*1000+4", 4);
        worked("9999*9999*-1+1000*1000+2", 2);
        worked("1000*1000+1-999*1000-950", 50);
        worked("1000*1000-1-999*1000-950", 49);
        worked("-1000*1000-1+999*1000+1050", 50);
        worked("-1000*1000+1+999*1000+1050", 51);
        worked("9999*100+99-9999*100", 99);
        worked("007", 7);
        worked("2\n+\n\n3", 5);
        worked("if 1=1?4:5 end*2", 8);
        worked("2*if 1=2?4:5 end+1", 11);
        worked("if if 1=1?0:1 end=0?if 2=2?6:7 end:8 end", 6);
        // Each level leaves five numbers waiting for the inner one: it comes to 2 only if that did.
        String level = "if 1=2 or 1=1 and 3=1+1*";
        worked(level.repeat(8) + "2" + "?2:5 end".repeat(8), 2);
        worked(level.repeat(8) + "3" + "?2:5 end".repeat(8), 5);
    }

    private void asked(String question, boolean holds) {
        worked("if " + question + "?1:2 end", holds ? 1 : 2);
    }

    private void questions() {
        asked("1<2", true);
        asked("2<2", false);
        asked("2<=2", true);
        asked("3<=2", false);
        asked("3>2", true);
        asked("2>2", false);
        asked("2>=2", true);
        asked("1>=2", false);
        asked("2=2", true);
        asked("2=3", false);
        asked("2#3", true);
        asked("2#2", false);
        asked("-1<0", true);
        asked("not 1=1", false);
        asked("not not 1=1", true);
        asked("1=1 and 1=2", false);
        asked("1=1 and 2=2 and 3=3", true);
        asked("1=2 or 1=1", true);
        asked("1=2 or 2=1", false);
        asked("1=1 or 1=1 and 1=2", true);
        asked("1=2 and 1=1 or 1=1", true);
        asked("1=2 and 1=2 or 1=2", false);
        asked("not 1=2 and 1=2", false);
        asked("not 1=1 or 1=1", true);
        asked("1=1 and not 1=2", true);
        asked("1+1=2*1", true);
        asked("(1)<(2)", true);
        asked("1/0=0 or 1=2", true);
    }

    private void sees() {
        WrongEnd x = new WrongEnd(3, 2);
        due("13: none yet", x.sees(0, false, 0, 0, false), NONE);
        place(x, 2, 3);
        for (int state = 0; state < 48; state++) {
            due("13: without, size", x.sees(0, false, state, 23, false), state % 8 / 2 + 1);
            due("13: without, turned", x.sees(1, true, state, 0, false), 0);
            due("13: without, slip", x.sees(1, state % 2 == 0, state, 7, true), 0);
        }
        Feeder.text(x, "sees far+4*turned;slip scope*3+hour/12-turned;");
        x.by(0);
        due("13: far", x.sees(0, false, 24, 0, false), 3);
        due("13: far of the other", x.sees(1, false, 24, 0, false), 0);
        due("13: far, turned", x.sees(1, true, 16, 0, false), 7);
        due("13: slip", x.sees(1, false, 0, 11, true), 3);
        due("13: slip at noon", x.sees(1, false, 0, 12, true), 4);
        due("13: slip, turned", x.sees(1, true, 0, 23, true), 3);
        due("13: slip, 0 at least", x.sees(0, true, 0, 0, true), 0);
        x.lend(0, true);
        x.turn(1, true);
        due("13: lent, too", x.sees(0, false, 24, 0, false), 3);
        due("13: as asked, not as held", x.sees(1, false, 16, 0, false), 3);
        due("13: hour 24", x.sees(0, false, 0, 24, false), NONE);
        due("13: hour -1", x.sees(0, false, 0, -1, false), NONE);
        due("13: scope 2", x.sees(2, false, 0, 0, false), NONE);
        due("13: state 48", x.sees(0, false, 48, 0, true), NONE);
        for (int wrong : WRONG) {
            due("13: wrong scope", x.sees(wrong, true, 0, 0, true), NONE);
            due("13: wrong state", x.sees(0, true, wrong, 0, true), NONE);
            due("13: wrong hour", x.sees(0, true, 0, wrong, false), NONE);
        }
        WrongEnd most = ruled(1, 1, "sees 10;slip 11;");
        most.scope(0);
        due("13: sees 9 at most", most.sees(0, false, 0, 0, false), 9);
        due("13: slip 9 at most", most.sees(0, false, 0, 0, true), 9);
        WrongEnd least = ruled(1, 1, "sees -1;slip -2;");
        least.scope(0);
        due("13: sees 0 at least", least.sees(0, false, 0, 0, false), 0);
        due("13: slip 0 at least", least.sees(0, false, 0, 0, true), 0);
    }

    private void report() {
        WrongEnd x = new WrongEnd(2, 1);
        due("14: none yet", x.report(0, 0, 0), NONE);
        place(x, 0, 1);
        x.turn(1, true);
        due("14: the first", x.report(1, 23, 9), 1);
        due("14: told", x.about(40), 1739);
        x.turn(1, false);
        due("14: held as it was then", x.about(40), 1739);
        due("14: the second", x.report(0, 0, 0), 2);
        due("14: told", x.about(41), 0);
        due("14: tells 10", x.report(0, 0, 10), NONE);
        due("14: tells -1", x.report(0, 0, -1), NONE);
        due("14: hour 24", x.report(0, 24, 0), NONE);
        due("14: hour -1", x.report(0, -1, 0), NONE);
        due("14: scope 2", x.report(2, 0, 0), NONE);
        for (int wrong : WRONG) {
            due("14: wrong scope", x.report(wrong, 0, 0), NONE);
            due("14: wrong hour", x.report(0, wrong, 0), NONE);
            due("14: wrong telling", x.report(0, 0, wrong), NONE);
        }
        x.lend(0, true);
        due("14: lent", x.report(0, 0, 0), NONE);
        for (int i = 3; i <= 10; i++) {
            due("14: number " + i, x.report(1, i, 1), i);
        }
        due("14: there are 10", x.report(1, 0, 0), NONE);
        due("14: ten", x.about(5), 10);
        due("14: the last", x.about(49), 1101);
    }

    private void forget() {
        WrongEnd x = new WrongEnd(1, 1);
        due("15: none", x.forget(), 0);
        place(x, 0);
        x.report(0, 1, 1);
        x.report(0, 1, 2);
        due("15: two", x.forget(), 2);
        due("15: none now", x.about(5), 0);
        due("15: not told", x.about(40), -2);
        due("15: no weight of them", x.weight(0, 1), NONE);
        due("15: a new one", x.report(0, 2, 2), 1);
    }

    private void weight() {
        WrongEnd x = ruled(2, 1, "prior size;sees 8+x;slip 3;");
        place(x, 0, 1);
        x.report(0, 0, 8);
        x.report(1, 5, 9);
        x.report(0, 6, 0);
        due("16: as of none", x.weight(4, 0), 3);
        due("16: seen", x.weight(4, 1), 21);
        due("16: one more", x.weight(4, 2), 63);
        due("16: another thing", x.weight(4, 3), 0);
        due("16: of cell 1", x.weight(8, 0), 1);
        due("16: of cell 1, less", x.weight(8, 1), 0);
        due("16: state 16", x.weight(16, 0), NONE);
        due("16: k 4", x.weight(0, 4), NONE);
        due("16: k -1", x.weight(0, -1), NONE);
        for (int wrong : WRONG) {
            due("16: wrong state", x.weight(wrong, 0), NONE);
            due("16: wrong k", x.weight(0, wrong), NONE);
        }
        x.forget();
        x.report(0, 0, 9);
        x.report(0, 0, 0);
        due("16: 9 seen, then 0 for 9", x.weight(14, 2), 4 * 7 * 3);
        due("16: 9 for 8, then 0 can't be", x.weight(6, 2), 0);
        asItIsNow();
    }

    private void asItIsNow() {
        WrongEnd x = new WrongEnd(2, 1);
        Feeder.text(x, "sees hill+turned;slip 2;");
        Feeder.text(x, "sees 4;slip scope+hour;");
        place(x, 0, 1);
        x.turn(1, true);
        x.report(1, 3, 4);
        due("16: without a text", x.weight(0, 1), 0);
        x.by(0);
        due("16: too low", x.weight(0, 1), 0);
        x.hill(0, 3);
        due("16: the hill as it is now", x.weight(0, 1), 8);
        x.hill(0, 2);
        due("16: one more", x.weight(0, 1), 2);
        x.turn(1, false);
        due("16: held as it was then", x.weight(0, 1), 2);
        x.lend(1, true);
        due("16: lent since", x.weight(0, 1), 2);
        x.by(1);
        due("16: the text as it is now", x.weight(0, 1), 6);
    }

    private void odds() {
        WrongEnd x = ruled(2, 1, "prior size*(x+1)+paints;sees size;slip 5*x;");
        // Cell 0: 1 2 2 3 3 4 4 5, 24 in all; cell 1: 2 3 4 5 6 7 8 9, 44 in all.
        place(x, 0);
        twoOdds(x, new int[] {0, -1, -1, -1}, 1, 1);
        twoOdds(x, new int[] {0, 0, -1, -1}, 6, 17);
        twoOdds(x, new int[] {0, 1, -1, -1}, 11, 17);
        twoOdds(x, new int[] {0, -1, 4, -1}, 13, 34);
        twoOdds(x, new int[] {0, -1, -1, 1}, 19, 34);
        twoOdds(x, new int[] {0, 1, 1, 0}, 1, 34);
        x.report(0, 0, 2);
        // Cell 0, size 2: 20 and 30; cell 1, size 1: 10 and 15, size 2: 20 and 25: 120 in all.
        twoOdds(x, new int[] {1, 0, -1, -1}, 5, 12);
        twoOdds(x, new int[] {1, -1, 1, -1}, 5, 24);
        twoOdds(x, new int[] {1, -1, 2, 1}, 11, 24);
        twoOdds(x, new int[] {1, -1, 3, -1}, 0, 1);
        twoOdds(x, new int[] {1, 1, -1, 0}, 1, 4);
        int[][] wrong = {{2, 0, 1, 0}, {-1, 0, 1, 0}, {0, 2, 1, 0}, {0, -2, 1, 0}, {0, 0, 0, 0}, {0, 0, 5, 0},
            {0, 0, 1, 2}, {0, 0, 1, -2}, {LOW, 0, 1, 0}, {0, HIGH, 1, 0}, {0, 0, LOW, 0}, {0, 0, 1, HIGH}};
        for (int[] one : wrong) {
            twoOdds(x, one, NONE, NONE);
        }
        due("17: what 2", x.odds(0, 0, 1, 0, 2), NONE);
        due("17: what -1", x.odds(0, 0, 1, 0, -1), NONE);
        x.report(0, 0, 4);
        twoOdds(x, new int[] {2, 0, -1, -1}, NONE, NONE);
        twoOdds(x, new int[] {1, 0, -1, -1}, 5, 12);
    }

    private void twoOdds(WrongEnd x, int[] of, long upper, long lower) {
        String call = "17: odds(" + of[0] + ", " + of[1] + ", " + of[2] + ", " + of[3] + ", ";
        due(call + "0)", x.odds(of[0], of[1], of[2], of[3], 0), upper);
        due(call + "1)", x.odds(of[0], of[1], of[2], of[3], 1), lower);
    }

    private void likely() {
        WrongEnd x = ruled(2, 1, "prior 5-size+x;sees size;slip 1;");
        place(x, 0);
        due("18: as of none", x.likely(0), 8);
        x.report(0, 0, 4);
        due("18: size 4", x.likely(1), 14);
        due("18: as of none still", x.likely(0), 8);
        x.report(0, 0, 2);
        due("18: can't be", x.likely(2), NONE);
        due("18: k 3", x.likely(3), NONE);
        due("18: k -1", x.likely(-1), NONE);
        for (int wrong : WRONG) {
            due("18: wrong", x.likely(wrong), NONE);
        }
        due("18: all are 0", ruled(1, 1, "prior 0;").likely(0), NONE);
        due("18: the last alone", ruled(1, 1, "prior size/4*paints;").likely(0), 7);
        due("18: the lowest of like ones", ruled(4, 4, "prior if x=1 and size=2?9:8 end;").likely(0), 10);
    }

    private void sure() {
        WrongEnd x = ruled(2, 1, "prior if paints=0 and size<3?size:0 end;sees size+x*turned+scope;slip 4-2*turned;");
        place(x, 0, 1);
        // Weights: 1 (0, size 1), 2 (0, size 2), 1 (1, size 1), 2 (1, size 2).
        // 0, not turned: 1: 6; 2: 12; 3: 8. Turned: 1: 8; 2: 16; 3: 16; 4: 4.
        due("19: sure(0, NONE)", x.sure(0, NONE, 3), 26);
        due("19: sure(1, NONE)", x.sure(1, NONE, 3), 44);
        due("19: sure(2, NONE)", x.sure(2, NONE, 3), 26);
        due("19: sure(3, NONE)", x.sure(3, NONE, 3), 44);
        // 0 and 1, not turned: (1,2): 36, (1,3): 24, (2,2): 24, (2,3): 72, (2,4): 48, (3,3): 48, (3,4): 32.
        due("19: sure(0, 2)", x.sure(0, 2, 3), 284);
        due("19: sure(2, 0)", x.sure(2, 0, 3), 284);
        due("19: the same twice", x.sure(0, 0, 3), NONE);
        due("19: both ways", x.sure(0, 1, 3), NONE);
        due("19: both ways", x.sure(3, 2, 3), NONE);
        due("19: none such", x.sure(4, NONE, 3), NONE);
        due("19: none such", x.sure(0, 4, 3), NONE);
        due("19: hour 24", x.sure(0, NONE, 24), NONE);
        due("19: hour -1", x.sure(0, 2, -1), NONE);
        due("19: first NONE", x.sure(NONE, 0, 3), NONE);
        due("19: both NONE", x.sure(NONE, NONE, 3), NONE);
        for (int wrong : WRONG) {
            due("19: wrong one", x.sure(wrong, 0, 3), NONE);
            due("19: wrong other", x.sure(0, wrong, 3), NONE);
            due("19: wrong hour", x.sure(0, NONE, wrong), NONE);
        }
        x.lend(1, true);
        due("19: lent", x.sure(2, NONE, 3), NONE);
        due("19: the other lent", x.sure(0, 3, 3), NONE);
        x.turn(0, true);
        due("19: as it would be held", x.sure(0, NONE, 3), 26);
        x.report(0, 0, 4);
        // Only cell 1, size 2 may slip to 4 from 3: its weight is 2 * 2.
        due("19: as of all reports", x.sure(0, NONE, 3), 40);
        x.report(0, 0, 9);
        due("19: all are 0", x.sure(0, NONE, 3), 0);
        nineSlips();
    }

    private void nineSlips() {
        WrongEnd x = ruled(1, 1, "prior 1-paints;sees if size=1?9:0 end;slip 5*turned;");
        place(x, 0, 0);
        due("19: 9 and 0 apart", x.sure(0, NONE, 0), 20);
        due("19: 9 slips to 0", x.sure(1, NONE, 0), 15);
        due("19: both slip", x.sure(1, 3, 0), 25 * 3 + 25 + 25 + 25 + 25);
    }

    private void ask() {
        WrongEnd x = ruled(2, 2, "sees if turned=1?0:if scope=2?x+2*y:if hour<12?size:paints end end end;");
        due("20: none", x.ask(0, false, 0), NONE);
        place(x, 0);
        due("20: one alone", x.ask(0, false, 0), 0);
        due("20: no two", x.ask(0, true, 0), NONE);
        due("20: no two", x.ask(0, true, 1), NONE);
        due("20: second of one", x.ask(0, false, 1), NONE);
        place2(x, 0, 0);
        // By morning 0 and 1 tell four sizes, 2 tells four cells; later 0 and 1 tell two things.
        due("20: the lowest of like ones", x.ask(11, false, 0), 0);
        due("20: the surest", x.ask(12, false, 0), 4);
        due("20: two, first", x.ask(11, true, 0), 0);
        due("20: two, second", x.ask(11, true, 1), 4);
        due("20: what 2", x.ask(11, true, 2), NONE);
        due("20: what -1", x.ask(11, true, -1), NONE);
        due("20: what -1", x.ask(11, false, -1), NONE);
        due("20: hour 24", x.ask(24, false, 0), NONE);
        due("20: hour -1", x.ask(-1, true, 0), NONE);
        for (int wrong : WRONG) {
            due("20: wrong hour", x.ask(wrong, false, 0), NONE);
            due("20: wrong what", x.ask(0, true, wrong), NONE);
        }
        x.lend(0, true);
        due("20: not the lent one", x.ask(11, true, 0), 2);
        due("20: second", x.ask(11, true, 1), 4);
        x.lend(2, true);
        due("20: one is left", x.ask(12, false, 0), 2);
        due("20: no two", x.ask(12, true, 0), NONE);
        x.lend(1, true);
        due("20: all are lent", x.ask(12, false, 0), NONE);
        due("20: nothing is turned", x.about(30), 1);
        turnedIsBest();
    }

    private void place2(WrongEnd x, int... cells) {
        for (int cell : cells) {
            x.scope(cell);
        }
    }

    private void turnedIsBest() {
        WrongEnd x = ruled(2, 2, "sees if turned=scope/2?0:if scope=0?x:if scope=1?y:size end end end;");
        place2(x, 0, 0, 0);
        // 0 and 1 tell two things if turned, 2 tells four if it isn't.
        due("20: the surest", x.ask(0, false, 0), 4);
        due("20: two, first", x.ask(0, true, 0), 1);
        due("20: two, second", x.ask(0, true, 1), 4);
        x.lend(2, true);
        due("20: two turned, first", x.ask(0, true, 0), 1);
        due("20: two turned, second", x.ask(0, true, 1), 3);
        due("20: one turned", x.ask(0, false, 0), 1);
        WrongEnd none = ruled(1, 1, "prior 0;");
        place2(none, 0, 0, 0);
        due("20: all weights are 0", none.ask(0, false, 0), 0);
        due("20: all weights are 0, first", none.ask(0, true, 0), 0);
        due("20: all weights are 0, second", none.ask(0, true, 1), 2);
    }

    private void eighth() {
        WrongEnd x = ruled(3, 1, "sees far;");
        // From the ends three things are told, from the middle two.
        due("21: the lowest end", x.eighth(0), 0);
        WrongEnd y = ruled(3, 1, "sees if far<2 and turned=0?x*scope+hour:0 end;");
        due("21: number 0 sees hours alone", y.eighth(0), 0);
        place(y, 0);
        // Number 1 tells x from the middle; from the ends it tells two of three.
        due("21: number 1", y.eighth(0), 1);
        due("21: hour 24", y.eighth(24), NONE);
        due("21: hour -1", y.eighth(-1), NONE);
        for (int wrong : WRONG) {
            due("21: wrong", y.eighth(wrong), NONE);
        }
        due("21: none came", y.about(2), 1);
        y.lend(0, true);
        due("21: whatever is lent", y.eighth(0), 1);
        place2(y, 0, 0, 0, 0, 0, 0);
        due("21: the eighth", y.eighth(0), 1);
        y.scope(0);
        due("21: there are 8", y.eighth(0), NONE);
        due("21: all weights are 0", ruled(2, 2, "prior 0;").eighth(0), 0);
    }

    private void does() {
        WrongEnd x = ruled(1, 1, "prior 1-paints;cost if act=0?size*3:if act=1?7:if act=2?hill*2+1:if act=3?1:0 end end end end;");
        x.hill(0, 3);
        // Four states of weight 1: act 0 costs 30, 1 and 2 cost 28, 3 costs 4, 4 costs 0.
        threeOf(x, 1, 0, 15, 2);
        threeOf(x, 2, 1, 7, 1);
        threeOf(x, 3, 1, 7, 1);
        threeOf(x, 4, 3, 1, 1);
        threeOf(x, 5, 4, 0, 1);
        threeOf(x, 0, NONE, NONE, NONE);
        threeOf(x, 6, NONE, NONE, NONE);
        for (int wrong : WRONG) {
            threeOf(x, wrong, NONE, NONE, NONE);
            due("22: wrong what", x.does(1, wrong), NONE);
        }
        due("22: what 3", x.does(1, 3), NONE);
        due("22: what -1", x.does(1, -1), NONE);
        place(x, 0);
        x.report(0, 0, 2);
        threeOf(x, 2, 0, 6, 1);
        x.report(0, 0, 3);
        threeOf(x, 2, NONE, NONE, NONE);
        threeOf(ruled(1, 1, "cost 1000;"), 1, 0, 999, 1);
        threeOf(ruled(1, 1, "cost 0-act;"), 5, 0, 0, 1);
        threeOf(ruled(1, 1, "cost 4-act;"), 5, 4, 0, 1);
        threeOf(ruled(1, 1, "prior 0;cost 1;"), 5, NONE, NONE, NONE);
        threeOf(new WrongEnd(4, 4), 5, 0, 0, 1);
    }

    private void threeOf(WrongEnd x, int n, long which, long upper, long lower) {
        due("22: does(" + n + ", 0)", x.does(n, 0), which);
        due("22: does(" + n + ", 1)", x.does(n, 1), upper);
        due("22: does(" + n + ", 2)", x.does(n, 2), lower);
    }

    private void spied() {
        WrongEnd x = ruled(1, 1, "sees if hour=1?9:if turned=1?5:scope+size end end;slip 5;");
        due("23: none yet", x.spied(0, 0, 0, 1, 0), NONE);
        place(x, 0, 0, 0);
        x.turn(2, true);
        // X from 1 on: 1, 262, 16910, 19873, 8972, 12308, 8032, 24474: only the sixth doesn't slip.
        int[] told = {2, 3, 6, 0, 0, 9, 2, 3};
        for (int k = 0; k < 8; k++) {
            due("23: report " + k, x.spied(0, 0, 0, 3, k), told[k]);
        }
        due("23: from hour 23 on, by 24", x.spied(0, 0, 23, 3, 6), 0);
        due("23: no ninth of three hours", x.spied(0, 0, 0, 3, 9), NONE);
        due("23: but of ten", x.spied(0, 0, 0, 10, 29) >= 0, true);
        due("23: no 30th", x.spied(0, 0, 0, 10, 30), NONE);
        due("23: k -1", x.spied(0, 0, 0, 1, -1), NONE);
        due("23: n 0", x.spied(0, 0, 0, 0, 0), NONE);
        due("23: n 11", x.spied(0, 0, 0, 11, 0), NONE);
        due("23: seed 10000", x.spied(10000, 0, 0, 1, 0), NONE);
        due("23: seed -1", x.spied(-1, 0, 0, 1, 0), NONE);
        // 9999 * 3 + 1 is 29998: no slip; then (29998 * 179 + 83) mod 30071 is 17087.
        due("23: seed 9999", x.spied(9999, 0, 0, 1, 0), 1);
        due("23: seed 9999, next", x.spied(9999, 0, 0, 1, 1), 2);
        due("23: state 8", x.spied(0, 8, 0, 1, 0), NONE);
        due("23: hour 24", x.spied(0, 0, 24, 1, 0), NONE);
        for (int wrong : WRONG) {
            due("23: wrong seed", x.spied(wrong, 0, 0, 1, 0), NONE);
            due("23: wrong state", x.spied(0, wrong, 0, 1, 0), NONE);
            due("23: wrong hour", x.spied(0, 0, wrong, 1, 0), NONE);
            due("23: wrong n", x.spied(0, 0, 0, wrong, 0), NONE);
            due("23: wrong k", x.spied(0, 0, 0, 1, wrong), NONE);
        }
        x.lend(1, true);
        due("23: passed over, with no draw", x.spied(0, 0, 0, 1, 1), 6);
        due("23: no third", x.spied(0, 0, 0, 1, 2), NONE);
        x.lend(0, true);
        x.lend(2, true);
        due("23: all are lent", x.spied(0, 0, 0, 1, 0), NONE);
        due("23: no report came", x.about(5), 0);
    }

    private void image() {
        WrongEnd x = new WrongEnd(1, 1);
        due("24: none", x.image(), 0);
        place(x, 0);
        x.report(0, 1, 1);
        x.report(0, 1, 1);
        due("24: two", x.image(), 2);
        due("24: nothing changed", x.about(5), 2);
        x.report(0, 2, 2);
        due("24: three", x.image(), 3);
        x.forget();
        due("24: the latest", x.back(), 3);
        due("24: its third", x.about(42), 22);
    }

    private void back() {
        WrongEnd x = new WrongEnd(2, 1);
        place(x, 0, 1);
        x.hill(0, 3);
        x.turn(0, true);
        x.lend(1, true);
        Feeder.text(x, "prior 5;");
        x.by(0);
        x.report(0, 4, 2);
        x.image();
        for (int round = 0; round < 2; round++) {
            spoil(x);
            due("25: back", x.back(), 1);
            int[] all = {2, 1, 2, 1, 0, 1, 2, 3};
            for (int i = 0; i < all.length; i++) {
                due("25: about(" + i + ")", x.about(i), all[i]);
            }
            due("25: hills", 10 * x.about(10) + x.about(11), 30);
            due("25: telescopes", 1000 * x.about(30) + x.about(31), 10101);
            due("25: the report", x.about(40), 542);
            due("25: the text", x.prior(0), 5);
            due("25: the fault stays", x.fault(0), 1);
            due("25: its place stays", x.fault(1), 2);
        }
        due("25: the steps", x.undo(), 1);
        due("25: the steps", x.undo(), 0);
        due("25: the steps", x.undo(), NONE);
        due("25: as ahead of them", 1000 * x.about(30) + x.about(31), 100);
    }

    private void spoil(WrongEnd x) {
        Feeder.text(x, "prior 6;");
        Feeder.text(x, "prior 7;");
        x.by(2);
        due("25: changed", x.prior(0), 7);
        Feeder.text(x, "  ?");
        Feeder.lay(x, "abc");
        x.hill(0, 1);
        x.hill(1, 2);
        x.scope(1);
        x.undo();
        x.undo();
        x.turn(2, true);
        x.turn(1, true);
        x.forget();
        x.report(1, 1, 1);
        x.report(2, 2, 2);
    }

    private void about() {
        WrongEnd x = new WrongEnd(4, 3);
        int[] others = {-1, -2, 8, 9, 22, 25, 26, 29, 30, 31, 37, 38, 39, 40, 41, 49, 50, 100, HIGH, LOW, LOW + 9,
            LOW + 10, LOW + 29, LOW + 30, LOW + 40};
        for (int what : others) {
            due("26: about(" + what + ")", x.about(what), -2);
        }
        place(x, 11, 7);
        x.hill(11, 6);
        x.turn(1, true);
        x.lend(1, true);
        x.turn(0, true);
        x.report(0, 17, 8);
        x.turn(0, false);
        x.report(0, 5, 0);
        x.feed(0, 0, 0, 0, 0);
        x.end(13);
        int[] all = {4, 3, 2, 0, NONE, 2, 4, 13};
        for (int i = 0; i < all.length; i++) {
            due("26: about(" + i + ")", x.about(i), all[i]);
        }
        due("26: a hill", x.about(21), 6);
        due("26: a telescope", x.about(30), 1100);
        due("26: another", x.about(31), 711);
        due("26: no more", x.about(32), -2);
        due("26: a report", x.about(40), 678);
        due("26: another", x.about(41), 50);
        due("26: no more", x.about(42), -2);
        WrongEnd full = new WrongEnd(4, 4);
        due("26: the 16th cell", full.about(25), 0);
        due("26: the 17th", full.about(26), -2);
    }

    /** Ten reports of the greatest weight: 99 * 9^10, and what is reckoned with it. */
    private void greatNumbers() {
        WrongEnd x = ruled(4, 4, "prior 99;sees 9;slip 9;cost 999-act;");
        place2(x, 0, 1, 2, 3, 4, 5, 6, 7);
        for (int i = 0; i < 10; i++) {
            x.report(i % 8, i, 0);
        }
        long weight = 99L * 3486784401L;
        due("16: great", x.weight(127, 10), weight);
        due("19: great", x.sure(0, NONE, 0), 10 * weight);
        due("19: great, of two", x.sure(15, 0, 0), 100 * weight);
        due("17: great", x.odds(10, 0, -1, -1, 1), 16);
        due("20: great", x.ask(0, true, 1), 2);
        threeOf(x, 5, 4, 995, 1);
        WrongEnd y = ruled(4, 4, "prior 99-paints;sees size;slip 0;cost 998+x;");
        place2(y, 0);
        for (int i = 0; i < 10; i++) {
            y.report(0, i, 3);
        }
        due("16: greatest", y.weight(5, 10), 980000000000L);
        due("16: greatest", y.weight(4, 10), 990000000000L);
        due("18: greatest", y.likely(10), 4);
        due("17: greatest", y.odds(10, -1, -1, 0, 0), 99);
        due("17: greatest", y.odds(10, -1, -1, 0, 1), 197);
    }
}
