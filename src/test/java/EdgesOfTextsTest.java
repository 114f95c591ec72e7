/** Part II of the document and promises 7 to 11: each sentence with a bound, at it and beyond it. */
public final class EdgesOfTextsTest extends Sheet {
    private static final int BLANKS = 0x20202020;
    private static final String MARKS = "<>=#+-*/();?:";

    public static void main(String[] args) {
        EdgesOfTextsTest test = new EdgesOfTextsTest();
        test.feedToTheBrim();
        test.bytesInTheirPlaces();
        test.endsOfTheTape();
        test.cutBytesAreGone();
        test.emptyTexts();
        test.fourTexts();
        test.faultyTexts();
        test.threeHundredBytes();
        test.longTextsOneAfterTheOther();
        test.faultsToldLater();
        test.everyByteAlone();
        test.everyByteAmongFigures();
        test.everyByteAmongLetters();
        test.words();
        test.theLongest();
        test.numbers();
        test.clauses();
        test.whatCantStand();
        test.whatCantStandInAQuestion();
        test.endsTooSoon();
        test.nineOpen();
        test.nineOpenOfManyKinds();
        test.closedOnesDontCount();
        test.namesOfOtherClauses();
        test.theFirstAndTheLeast();
        test.ruling();
        test.numbersUsedAgain();
        test.checks.finish("EdgesOfTextsTest");
    }

    /** A text with ^ ahead of the TOKEN at which the FAULT is. */
    private void at(int fault, String text) {
        int place = text.indexOf('^');
        faulty(text.substring(0, place) + text.substring(place + 1), fault, place);
    }

    /** 7: "NONE, and none come, if there would be more than 300." */
    private void feedToTheBrim() {
        WrongEnd x = new WrongEnd(1, 1);
        due("7: empty", x.about(7), 0);
        for (int i = 1; i <= 15; i++) {
            due("7: feed " + i, x.feed(BLANKS, BLANKS, BLANKS, BLANKS, BLANKS), 20 * i);
            due("7: has", x.about(7), 20 * i);
        }
        for (int n = 300; n > 280; n--) {
            due("7: end", x.end(n), n);
            due("7: 20 behind " + n, x.feed(-1, -1, -1, -1, -1), NONE);
            due("7: none came", x.about(7), n);
        }
        due("7: end", x.end(280), 280);
        due("7: just 300", x.feed(BLANKS, BLANKS, BLANKS, BLANKS, BLANKS), 300);
        due("7: what was refused is nowhere", x.text(), 0);
        due("7: empty again", x.feed(0, 0, 0, 0, 0), 20);
    }

    /** 7: "Twenty bytes come behind the tape, the highest of a first". */
    private void bytesInTheirPlaces() {
        for (int strange : new int[] {0, 33, 127, 128, 255}) {
            for (int place = 0; place < 20; place++) {
                int[] row = {BLANKS, BLANKS, BLANKS, BLANKS, BLANKS};
                int shift = 24 - 8 * (place % 4);
                row[place / 4] = BLANKS & ~(255 << shift) | strange << shift;
                WrongEnd x = new WrongEnd(1, 1);
                x.feed(BLANKS, BLANKS, BLANKS, BLANKS, BLANKS);
                due("7: forty", x.feed(row[0], row[1], row[2], row[3], row[4]), 40);
                due("7: byte " + strange + " at " + place, x.text(), NONE);
                due("7: is there", x.fault(1), 20 + place);
            }
        }
    }

    /** 8: "NONE, and nothing is done, if it has not so many, or n is below 0." */
    private void endsOfTheTape() {
        WrongEnd x = new WrongEnd(1, 1);
        due("8: none of none", x.end(0), 0);
        for (int wrong : new int[] {-1, 1, 20, 300, 301, LOW, HIGH}) {
            due("8: end(" + wrong + ") of none", x.end(wrong), NONE);
        }
        for (int i = 1; i <= 15; i++) {
            x.feed(BLANKS, BLANKS, BLANKS, BLANKS, BLANKS);
            for (int wrong : new int[] {-1, 20 * i + 1, 301, LOW, HIGH}) {
                due("8: end(" + wrong + ") of " + 20 * i, x.end(wrong), NONE);
            }
            due("8: nothing done", x.about(7), 20 * i);
            due("8: all of them", x.end(20 * i), 20 * i);
            due("8: stays", x.about(7), 20 * i);
        }
        due("8: 299", x.end(299), 299);
        due("8: 300 are not there", x.end(300), NONE);
        due("8: 1", x.end(1), 1);
        due("8: 0", x.end(0), 0);
        due("8: empty", x.about(7), 0);
    }

    private void cutBytesAreGone() {
        WrongEnd x = new WrongEnd(1, 1);
        Feeder.lay(x, "prior 5;prior 6;");
        x.end(6);
        due("8: behind what is left", x.feed(0x37373b20, BLANKS, BLANKS, BLANKS, BLANKS), 26);
        due("8: read", x.text(), 0);
        x.by(0);
        due("8: of both pieces", x.prior(0), 77);
    }

    /** 9: a text without a CLAUSE is one. */
    private void emptyTexts() {
        WrongEnd x = new WrongEnd(1, 1);
        due("9: of no bytes", x.text(), 0);
        due("9: without a fault", x.fault(0), 0);
        due("9: nor a place", x.fault(1), NONE);
        due("9: of one blank", Feeder.text(x, " "), 1);
        due("9: of the other", Feeder.text(x, "\n"), 2);
        place(x, 0);
        for (int text = 0; text < 3; text++) {
            due("11: it rules", x.by(text), true);
            due("12: prior without", x.prior(7), 1);
            due("13: sees without", x.sees(0, false, 7, 0, false), 4);
            due("13: sees without, turned", x.sees(0, true, 7, 0, false), 0);
            due("13: slip without", x.sees(0, false, 7, 0, true), 0);
            due("22: cost without", x.does(5, 1), 0);
        }
    }

    /** II: "TEXTS 0 .. 3"; 9: "NONE: .. or (the tape stays) there are 4." */
    private void fourTexts() {
        WrongEnd x = new WrongEnd(1, 1);
        for (int i = 0; i < 4; i++) {
            due("9: so many", x.about(3), i);
            due("11: not there yet", x.by(i), false);
            due("9: number " + i, Feeder.text(x, "prior " + (10 + i) + ";"), i);
            due("9: the tape is empty", x.about(7), 0);
            due("11: there", x.by(i), true);
            due("12: its own", x.prior(0), 10 + i);
        }
        due("9: an empty fifth", x.text(), NONE);
        due("9: a sound fifth", Feeder.text(x, "prior 99;"), NONE);
        due("9: the tape stays", x.about(7), 9);
        due("9: and again", x.text(), NONE);
        due("9: stays", x.about(7), 9);
        due("9: a faulty fifth", Feeder.text(x, "prior ?"), NONE);
        due("9: stays, too", x.about(7), 7);
        due("10: it was not read", x.fault(0), 0);
        due("10: nor has it a place", x.fault(1), NONE);
        due("9: four", x.about(3), 4);
        due("11: the fourth rules still", x.about(4), 3);
        due("12: by its own", x.prior(0), 13);
        x.back();
        due("9: the tape stays behind back", x.about(7), 7);
        due("9: and is read when there is room", x.text(), NONE);
        due("10: so there is a fault", x.fault(0), 1);
        due("10: where it stands", x.fault(1), 6);
    }

    /** 9: "NONE: it has a FAULT": no text comes, and the next one has its number. */
    private void faultyTexts() {
        WrongEnd x = new WrongEnd(1, 1);
        due("9: sound", Feeder.text(x, "prior 3;"), 0);
        x.by(0);
        due("9: a fault at the end", Feeder.text(x, "prior 4;sees 1;prior"), NONE);
        due("9: no text came", x.about(3), 1);
        due("9: the tape is empty", x.about(7), 0);
        due("12: the first rules", x.prior(0), 3);
        due("9: sound again", Feeder.text(x, "sees 2;"), 1);
        x.by(1);
        due("12: nothing is left of the faulty one", x.prior(0), 1);
    }

    /** II: a text is "of up to 300 bytes", and its end is "at the length". */
    private void threeHundredBytes() {
        sound("prior" + " ".repeat(293) + "5;");
        sound("\n".repeat(300));
        sound("prior " + "1+".repeat(146) + "1;");
        sound("prior " + "0".repeat(293) + ";");
        faulty("prior " + "1+".repeat(147), 1, 300);
        faulty("prior" + " ".repeat(295), 1, 300);
        faulty("prior 1" + "\n".repeat(293), 1, 300);
        faulty("prior " + "9".repeat(294), 2, 6);
        faulty("x".repeat(300), 1, 0);
        faulty(" ".repeat(299) + "x", 1, 299);
        faulty(";".repeat(300), 1, 0);
        worked("1" + "+1*1".repeat(70), 71);
        worked("-".repeat(8) + "7" + "*1".repeat(140), 7);
    }

    /** What a text before has left, sound or not, takes no room from the next. */
    private void longTextsOneAfterTheOther() {
        WrongEnd x = new WrongEnd(1, 1);
        for (int i = 1; i <= 9; i++) {
            due("9: with a fault at its end", Feeder.text(x, "prior " + "1+".repeat(147)), NONE);
            due("9: sound, number " + (i - 1) % 3, Feeder.text(x, "prior " + i + "*1".repeat(145) + "+1;"), (i - 1) % 3);
            x.by((i - 1) % 3);
            due("12: whole", x.prior(0), i + 1);
            if (i % 3 == 0) {
                x.back();
            }
        }
    }

    /** 10: "Of the latest text that was read"; "NONE for others, and ahead of any". */
    private void faultsToldLater() {
        WrongEnd x = new WrongEnd(1, 1);
        for (int what : new int[] {0, 1, 2, -1, LOW, HIGH}) {
            due("10: ahead of any", x.fault(what), NONE);
        }
        Feeder.lay(x, "  ?");
        due("10: laid, not read", x.fault(0), NONE);
        x.text();
        due("10: its fault", x.fault(0), 1);
        due("10: its place", x.fault(1), 2);
        for (int wrong : new int[] {-1, 2, 3, LOW, HIGH}) {
            due("10: what " + wrong, x.fault(wrong), NONE);
        }
        x.image();
        Feeder.text(x, "prior 1;");
        due("10: none of the latest", x.fault(0), 0);
        due("10: no place", x.fault(1), NONE);
        for (int wrong : new int[] {-1, 2, LOW, HIGH}) {
            due("10: what " + wrong, x.fault(wrong), NONE);
        }
        x.back();
        due("10: an image has none", x.fault(0), 0);
        due("10: no place of one, too", x.fault(1), NONE);
        Feeder.text(x, "prior 10000;");
        due("10: the latest", x.fault(0), 2);
        due("10: its place", x.fault(1), 6);
    }

    private static boolean isBlank(int sign) {
        return sign == 32 || sign == 10;
    }

    private static boolean isLetter(int sign) {
        return "abcdefghijklmnopqrstuvwxyzABCDEFGHIJKLMNOPQRSTUVWXYZ".indexOf(sign) >= 0;
    }

    private static boolean isFigure(int sign) {
        return "0123456789".indexOf(sign) >= 0;
    }

    /** II: "blanks (32, 10) aside"; behind a CLAUSE no other byte may stand but those of a CLAUSE. */
    private void everyByteAlone() {
        for (int sign = 0; sign < 256; sign++) {
            String text = "prior 1; " + (char) sign;
            faulty(text, isBlank(sign) ? 0 : 1, isBlank(sign) ? NONE : 9);
        }
    }

    /** Between two figures: a figure makes one NUMBER, + - * / a SUM; the rest can't stand there, or is none. */
    private void everyByteAmongFigures() {
        for (int sign = 0; sign < 256; sign++) {
            String text = "prior 1" + (char) sign + "1;";
            if (isFigure(sign) || "+-*/".indexOf(sign) >= 0) {
                sound(text);
            } else if (isBlank(sign) || sign == ';') {
                faulty(text, 1, 8);
            } else {
                faulty(text, 1, 7);
            }
        }
    }

    /** Between two letters: a letter makes one word that is none, + - * / a SUM. */
    private void everyByteAmongLetters() {
        for (int sign = 0; sign < 256; sign++) {
            String text = "prior x" + (char) sign + "y;";
            if (isLetter(sign)) {
                faulty(text, 1, 6);
            } else if ("+-*/".indexOf(sign) >= 0) {
                sound(text);
            } else if (isBlank(sign) || sign == ';') {
                faulty(text, 1, 8);
            } else {
                faulty(text, 1, 7);
            }
        }
    }

    /** II: letters "one behind the other (one TOKEN)", large ones unlike small ones. */
    private void words() {
        sound("prior1;sees2;");
        sound("prior(x)*y+size/2;");
        sound("prior if x=1?1:2end;");
        sound("prior if x=1or y=1and not x=1?1:2 end;");
        at(1, "^pri or 1;");
        at(1, "^priorx;");
        at(1, "^priorprior 1;");
        at(1, "^PRIOR 1;");
        at(1, "^prioR 1;");
        at(1, "^prio 1;");
        at(1, "^p 1;");
        at(1, "prior ^xy;");
        at(1, "prior ^xx;");
        at(1, "prior ^X;");
        at(1, "prior ^Y;");
        at(1, "prior ^hil;");
        at(1, "prior ^hills;");
        at(1, "prior ^painT;");
        at(1, "prior ^sizex;");
        at(1, "prior ^ifx=1?1:2 end;");
        at(1, "prior ^If x=1?1:2 end;");
        at(1, "prior if ^notx=1?1:2 end;");
        at(1, "prior if x=1 ^orx=1?1:2 end;");
        at(1, "prior if x=1 ^AND x=1?1:2 end;");
        at(1, "prior if x=1?1:2 ^END;");
        at(1, "prior if x=1?1:2 ^ends;");
        at(1, "prior ^none;");
        at(1, "sees ^farther;");
        at(1, "cost ^acts;");
        at(1, "prior x^1;");
        at(1, "prior 1^x;");
    }

    /** II: "(the longest)" of <= >= < > =. */
    private void theLongest() {
        worked("if 1<=1?1:2 end", 1);
        worked("if 1>=1?1:2 end", 1);
        at(1, "prior if 1< ^=1?1:2 end;");
        at(1, "prior if 1> ^=1?1:2 end;");
        at(1, "prior if 1<\n^=1?1:2 end;");
        at(1, "prior if 1<=^=1?1:2 end;");
        at(1, "prior if 1=^<1?1:2 end;");
        at(1, "prior if 1=^>1?1:2 end;");
        at(1, "prior if 1=^=1?1:2 end;");
        at(1, "prior if 1<^>1?1:2 end;");
        at(1, "prior if 1<^<1?1:2 end;");
        at(1, "prior if 1>^>=1?1:2 end;");
        at(1, "prior if 1#^=1?1:2 end;");
        at(1, "prior 1^<=");
        at(1, "prior 1^<");
        at(1, "prior 1^>");
    }

    /** II: "NUMBERS, 0 .. 9999"; FAULT 2. */
    private void numbers() {
        worked("0", 0);
        worked("9999-9900", 99);
        worked("9999/101", 99);
        worked("0000000000000000000042", 42);
        sound("prior 9999;");
        sound("prior 00009999;");
        at(2, "prior ^10000;");
        at(2, "prior ^00010000;");
        at(2, "prior ^65536;");
        at(2, "prior ^99999;");
        at(2, "prior ^2147483648;");
        at(2, "prior ^4294967296;");
        at(2, "prior ^4294967297;");
        at(2, "prior ^18446744073709551616;");
        at(2, "prior ^18446744073709551617;");
        at(2, "prior 1+^10000;");
        at(2, "prior -^10000;");
        at(2, "prior if ^10000=1?1:2 end;");
        at(2, "prior if 1=2?^10000:2 end;");
        at(2, "prior ^10000 10000;");
    }

    /** II: "{CLAUSE}, each once at most"; FAULT 4 "at its first TOKEN". */
    private void clauses() {
        String[] names = {"prior", "sees", "slip", "cost"};
        for (String name : names) {
            sound(name + " 1;");
            at(4, name + " 1;^" + name + " 1;");
            at(4, name + " 1;^" + name);
            at(4, name + " 1;^" + name + " ?");
            at(1, name + " ^" + name + " 1;");
            at(1, name + " 1 ^" + name + " 1;");
            at(1, "^" + name.substring(1) + " 1;");
            at(4, "cost 1;slip 1;sees 1;prior 1;\n ^" + name + " 1;");
        }
        sound("prior 1;sees 1;slip 1;cost 1;");
        sound("cost 1;slip 1;sees 1;prior 1;");
        sound("slip 1;prior 1;cost 1;sees 1;");
    }

    /** FAULT 1: "it can't stand there, or is none". */
    private void whatCantStand() {
        for (int i = 0; i < MARKS.length(); i++) {
            at(1, "^" + MARKS.charAt(i));
            if (MARKS.charAt(i) != '-' && MARKS.charAt(i) != '(') {
                at(1, "prior ^" + MARKS.charAt(i) + "1;");
                at(1, "prior 1+^" + MARKS.charAt(i) + "1;");
            }
            at(1, "prior 1;^" + MARKS.charAt(i));
        }
        for (String word : new String[] {"if", "end", "or", "and", "not", "x", "far", "act", "7"}) {
            at(1, "^" + word + " 1;");
            at(1, "prior 1 ^" + word + ";");
            at(1, "prior 1; ^" + word);
        }
        for (String word : new String[] {"end", "or", "and", "not", "prior", "cost"}) {
            at(1, "prior ^" + word + ";");
            at(1, "prior (^" + word + ");");
            at(1, "prior -^" + word + ";");
            at(1, "prior 2*^" + word + ";");
        }
        at(1, "prior (^);");
        at(1, "prior (1^;");
        at(1, "prior 1^);");
        at(1, "prior (1)^(2);");
        at(1, "prior ((1)^;");
        at(1, "prior -^;");
        at(1, "prior 1-^;");
        at(1, "prior 1-^+1;");
        at(1, "prior (1^=1);");
        at(1, "prior ^+1;");
    }

    private void whatCantStandInAQuestion() {
        at(1, "prior if ^? 1:2 end;");
        at(1, "prior if 1^?1:2 end;");
        at(1, "prior if (1^=1)?1:2 end;");
        at(1, "prior if (^not 1=1)?1:2 end;");
        at(1, "prior if 1=1^=1?1:2 end;");
        at(1, "prior if 1=^not 1=1?1:2 end;");
        at(1, "prior if -^not 1=1?1:2 end;");
        at(1, "prior if not 1^?1:2 end;");
        at(1, "prior if not ^or 1=1?1:2 end;");
        at(1, "prior if 1=1 or ^?1:2 end;");
        at(1, "prior if 1=1 and ^?1:2 end;");
        at(1, "prior if 1=1 or ^and 1=1?1:2 end;");
        at(1, "prior if 1 ^or 1=1?1:2 end;");
        at(1, "prior if 1=1 ^:1:2 end;");
        at(1, "prior if 1=1 ^1?1:2 end;");
        at(1, "prior if 1=1?^:2 end;");
        at(1, "prior if 1=1?1 ^?2 end;");
        at(1, "prior if 1=1?1 ^end;");
        at(1, "prior if 1=1?1:^end;");
        at(1, "prior if 1=1?1:2 ^:3 end;");
        at(1, "prior if 1=1?1:2^;");
        at(1, "prior if 1=1?1:2^) end;");
        at(1, "prior if 1=1?1^=1:2 end;");
        at(1, "prior if 1=1?1 ^or 1:2 end;");
        at(1, "prior if 1=1?1:2 end ^end;");
        at(1, "prior if 1=1?(1^:2 end);");
    }

    /** "of the end at the length", blanks and all. */
    private void endsTooSoon() {
        String whole = "prior if not ( x ) = - 1 and 2 < 3 ? 4 * 5 : 6 end ; ";
        String sound = whole.trim();
        sound(whole);
        sound(sound);
        for (int length = 1; length < sound.length(); length++) {
            String piece = sound.substring(0, length);
            boolean inWord = isLetter(piece.charAt(length - 1)) && isLetter(sound.charAt(length));
            if (!inWord) {
                faulty(piece, 1, length);
                faulty(piece + " \n ", 1, length + 3);
            }
        }
    }

    /** FAULT 3: "the 9th of ( not if and - (of one ONE) that are open around one another (at it)". */
    private void nineOpen() {
        String question = "if 1=1?";
        sound("prior " + "(".repeat(8) + "1" + ")".repeat(8) + ";");
        at(3, "prior " + "(".repeat(8) + "^(1" + ")".repeat(9) + ";");
        sound("prior " + "-".repeat(8) + "1;");
        at(3, "prior " + "-".repeat(8) + "^-1;");
        sound("prior " + question.repeat(8) + "1" + ":2 end".repeat(8) + ";");
        at(3, "prior " + question.repeat(8) + "^" + question + "1" + ":2 end".repeat(9) + ";");
        sound("prior if " + "not ".repeat(7) + "1=1?1:2 end;");
        at(3, "prior if " + "not ".repeat(7) + "^not 1=1?1:2 end;");
        at(3, "prior " + "(".repeat(8) + "^(");
        at(3, "prior " + "(".repeat(8) + "^" + "(".repeat(200));
        at(3, "prior " + "-".repeat(8) + "^" + "-".repeat(200));
        at(3, "prior if " + "not ".repeat(7) + "^" + "not ".repeat(60));
        at(3, "prior " + "if ".repeat(8) + "^" + "if ".repeat(80));
        worked("-".repeat(8) + "5", 5);
        worked("(".repeat(8) + "6" + ")".repeat(8), 6);
        worked("if " + "not ".repeat(7) + "1=1?1:2 end", 2);
        worked("if 1=2?8:".repeat(8) + "9" + " end".repeat(8), 9);
    }

    private void nineOpenOfManyKinds() {
        String[] ninths = {"(", "-", "if 1=1?1:2 end"};
        for (String ninth : ninths) {
            at(3, "prior (-(-(-(-^" + ninth);
            at(3, "prior if not not not -(-(^" + ninth);
            at(3, "prior if not not not -(-(1))=-(-(^" + ninth);
            at(3, "prior ((((if 1=(-(^" + ninth);
            at(3, "prior if 1=1?((((((-^" + ninth);
            at(3, "prior if 1=1?1:((((((-^" + ninth);
            at(3, "prior if 1=1 or not ((((((^" + ninth);
            at(3, "prior if 1=1 and 1=1 or not ((((((^" + ninth);
            at(3, "prior 1-(-(-(-(-^" + ninth);
        }
        at(3, "prior (((((((if ^not 1=1?1:2 end");
        at(3, "prior -------if 1=1 or ^not 1=1?1:2 end");
        at(3, "prior if not not not not not not not 1=^(1)?1:2 end;");
        at(3, "prior if not not not not not not not 1=^-1?1:2 end;");
    }

    /** Those that are closed, or stand beside one another, don't count. */
    private void closedOnesDontCount() {
        String deep = "(".repeat(8) + "1" + ")".repeat(8);
        sound("prior " + deep + "+" + deep + "*" + deep + ";sees " + deep + ";");
        sound("prior -1*" + deep + "--(((((((1)))))));");
        at(3, "prior -(((((((^(1))))))));");
        sound("prior if 1=1?1:2 end*" + deep + ";");
        sound("prior if not not not not not not not 1=1 and (((((((1)))))))=1?-------1:(((((((1))))))) end;");
        sound("prior if not 1=1 or not 1=1 or not 1=1 or not 1=1 or not 1=1 or not 1=1 or not 1=1 or not 1=1?1:2 end;");
        sound("prior 1-1-1-1-1-1-1-1-1-1-1-1;");
        sound("prior -1--1--1--1--1--1--1--1--1--1;");
        sound("prior (1)+(1)+(1)+(1)+(1)+(1)+(1)+(1)+(1)+(1);");
        sound("prior 1---------1;");
        at(3, "prior 1---------^-1;");
        at(3, "prior (-1)*((((((((^(1)))))))));");
        sound("prior if 1=1?if 1=1?1:2 end:if 1=1?1:2 end end+if 1=1?((((((1)))))):2 end;");
    }

    /** FAULT 5: "a NAME that isn't of that CLAUSE (at it)". */
    private void namesOfOtherClauses() {
        for (String name : new String[] {"x", "y", "size", "paints", "hill"}) {
            for (String clause : new String[] {"prior", "sees", "slip", "cost"}) {
                sound(clause + " " + name + ";");
            }
        }
        for (String name : new String[] {"hour", "scope", "turned", "far"}) {
            sound("sees " + name + ";");
            sound("slip " + name + ";");
            at(5, "prior ^" + name + ";");
            at(5, "cost ^" + name + ";");
            at(5, "sees " + name + ";cost ^" + name + ";");
            at(5, "prior 1+(^" + name + ");");
        }
        sound("cost act;");
        for (String clause : new String[] {"prior", "sees", "slip"}) {
            at(5, clause + " ^act;");
            at(5, "cost act;" + clause + " if x=^act?1:2 end;");
        }
        at(5, "sees hour+^act;");
    }

    /** "the first as TOKENS are come to .. of one the least". */
    private void theFirstAndTheLeast() {
        at(1, "prior 1 ^10000;");
        at(1, "prior 1 ^far;");
        at(1, "prior ((((((((1))))))))^(;");
        at(1, "prior ((((((((1^(");
        at(1, "prior ((((((((1 ^if");
        at(1, "prior ((((((((^not 1=1");
        at(1, "prior 1;sees 1 ^prior 2;");
        at(1, "^10000");
        at(1, "^far");
        at(1, "prior 1;^10000");
        at(2, "prior ^10000+far;prior");
        at(5, "prior ^far+10000;prior");
        at(3, "prior ((((((((^(10000+far;prior");
        at(2, "prior ((((((((^10000(;");
        at(4, "prior 1;^prior far;");
        at(1, "prior 1 ^! far");
        at(5, "prior ^far !");
        at(1, "^! prior far;");
        at(2, "prior ^10000!;");
    }

    /** 11: "(NONE: none): true. False for others." */
    private void ruling() {
        WrongEnd x = new WrongEnd(1, 1);
        due("11: at first none", x.about(4), NONE);
        due("11: none of none", x.by(NONE), true);
        for (int wrong : new int[] {0, 1, 3, 4, -2, LOW, HIGH}) {
            due("11: by(" + wrong + ") of none", x.by(wrong), false);
        }
        for (int i = 0; i < 4; i++) {
            Feeder.text(x, "prior " + (20 + i) + ";");
            due("11: a text doesn't rule by itself", x.about(4), i - 1);
            due("11: by(" + i + ")", x.by(i), true);
            for (int wrong : new int[] {i + 1, 4, 5, -2, LOW, HIGH}) {
                due("11: by(" + wrong + ")", x.by(wrong), false);
            }
            due("11: told", x.about(4), i);
            due("12: rules", x.prior(0), 20 + i);
        }
        due("11: an earlier one", x.by(0), true);
        due("12: rules", x.prior(0), 20);
        due("11: none", x.by(NONE), true);
        due("11: told", x.about(4), NONE);
        due("12: nothing rules", x.prior(0), 1);
    }

    /** Numbers that are free again behind a back get texts of their own. */
    private void numbersUsedAgain() {
        WrongEnd x = new WrongEnd(1, 1);
        Feeder.text(x, "prior 30;");
        x.by(0);
        x.image();
        for (int round = 1; round <= 3; round++) {
            due("9: the second", Feeder.text(x, "prior " + (30 + round) + ";cost " + round + ";"), 1);
            due("9: the third", Feeder.text(x, ""), 2);
            x.by(1);
            due("12: the new one", x.prior(0), 30 + round);
            due("22: the new one", x.does(1, 1), round);
            x.by(2);
            due("12: without", x.prior(0), 1);
            x.back();
            due("11: the first rules again", x.about(4), 0);
            due("12: by its own", x.prior(0), 30);
            due("11: the second is gone", x.by(1), false);
        }
    }
}
