/** Promises 1 to 9: a new object, the tape, the three texts and their FAULTS, has, letter. */
public final class TextTest {
    private static final Due DUE = new Due();
    private static final String REST = " when all;";

    public static void main(String[] args) {
        newObject();
        feeding();
        ending();
        fields();
        fieldTakesTrialsAndPlan();
        laws();
        plans();
        faultsOfFields();
        faultsOfSums();
        faultsOfDepth();
        faultsOfLaws();
        faultsOfPlans();
        tooManyStatements();
        longTexts();
        textsInTurn();
        latestFault();
        having();
        letters();
        DUE.end();
    }

    private static void newObject() {
        BlindSide x = new BlindSide();
        int[] has = {0, 0, 0, 0, 0, 95, 0, 0, 0, 0};
        for (int what = 0; what < has.length; what++) {
            DUE.is("1: has(" + what + ")", x.has(what), has[what]);
        }
        DUE.is("1: sight", x.sight(0, 0), 0);
        DUE.is("1: says", x.says(0, 0, 0, 0, 5), -1);
        DUE.is("1: run", x.run(0, 1), -1);
        DUE.is("1: octet", x.octet(0), -1);
        DUE.is("1: NONE", BlindSide.NONE, -1);
        DUE.is("1: an empty tape is no image", x.on(), false);
    }

    private static void feeding() {
        BlindSide x = new BlindSide();
        for (int k = 1; k <= 45; k++) {
            DUE.is("2: feed " + k, x.feed(k, k, k, k, k), 20 * k);
        }
        DUE.is("2: full", x.feed(1, 1, 1, 1, 1), -1);
        DUE.is("2: nothing came", x.end(901), false);
        DUE.is("2: room for 20 less one", x.end(881), true);
        DUE.is("2: not enough", x.feed(1, 1, 1, 1, 1), -1);
        DUE.is("2: just enough", x.end(880), true);
        DUE.is("2: 900 again", x.feed(1, 1, 1, 1, 1), 900);
        // the highest byte first: "disc" " 3 4" ";..."
        BlindSide y = new BlindSide();
        y.feed(0x64697363, 0x20332034, 0x3b202020, 0x20202020, 0x20202020);
        DUE.is("2: order of bytes", y.field(), 1);
        DUE.is("2: order of bytes", y.has(5), 51);
    }

    private static void ending() {
        BlindSide x = new BlindSide();
        DUE.is("3: none", x.end(0), true);
        DUE.is("3: too many", x.end(1), false);
        Due.feed(x, "disc 3 4; disc 5 5;");
        DUE.is("3: below 0", x.end(-1), false);
        DUE.is("3: too many", x.end(20), false);
        DUE.is("3: all", x.end(19), true);
        DUE.is("3: some", x.end(9), true);
        DUE.is("3: the first ones alone", x.field(), 1);
        DUE.is("3: the first ones alone", x.has(5), 51);
    }

    private static void fields() {
        BlindSide x = new BlindSide();
        DUE.is("4: statements", Due.field(x, Due.FIELD), 6);
        DUE.is("4: no fault", x.fault(0), 0);
        DUE.is("4: sight", x.sight(9, 2), 3);
        DUE.is("4: the tape is gone", x.end(1), false);
        DUE.is("4: refused", Due.field(x, "disc 1 1; disc"), -1);
        DUE.is("4: the tape is gone", x.end(1), false);
        DUE.is("4: all stays", x.has(5), 56);
        DUE.is("4: all stays", x.has(0), 2);
        DUE.is("4: all stays", x.sight(9, 2), 3);
        DUE.is("4: the last disc", Due.field(x, "disc 1 1; sight 5 when all; disc 2 7;"), 3);
        DUE.is("4: the last disc", x.has(5), 86);
        DUE.is("4: no sight on the disc", x.sight(2, 7), 0);
        DUE.is("4: sight where a disc was", x.sight(1, 1), 5);
        DUE.is("4: 40 statements", Due.field(x, "disc 1 1;".repeat(40)), 40);
        DUE.is("4: an empty text", Due.field(x, " \n "), 0);
        DUE.is("4: an empty text", x.has(4), 0);
        DUE.is("4: an empty text", x.has(5), 95);
        DUE.is("4: blanks", Due.field(x, "\n disc\n1  2\n;thing a 2 ;sight(3)when[all]and not[row=2];"), 3);
        DUE.is("4: blanks", x.has(4), 84);
    }

    private static void fieldTakesTrialsAndPlan() {
        BlindSide x = Due.with(Due.FIELD, Due.LAW);
        Due.plan(x, "show cross 0 0 9;");
        x.trial(0, 0, 0, 9, 0, 0, true, 1);
        x.chair(1, 1, true);
        DUE.is("4: refused", Due.field(x, "disc 12 0;"), -1);
        DUE.is("4: trials stay", x.has(2), 1);
        DUE.is("6: the plan stays", x.has(9), 1);
        DUE.is("4: taken", Due.field(x, Due.FIELD), 6);
        DUE.is("4: no trials", x.has(2), 0);
        DUE.is("6: no plan", x.has(9), 0);
        DUE.is("6: no plan", x.run(0, 1), -1);
        DUE.is("4: laws stay", x.has(1), 1);
        DUE.is("4: chairs stay", x.has(3), 1);
    }

    private static void laws() {
        BlindSide x = Due.with(Due.FIELD);
        DUE.is("5: law 1", Due.law(x, 1, Due.LAW), 4);
        DUE.is("5: one law", x.has(1), 1);
        DUE.is("5: its ways", x.has(7), 3);
        DUE.is("5: in its place", Due.law(x, 1, Due.SURE), 2);
        DUE.is("5: one law", x.has(1), 1);
        DUE.is("5: its ways", x.has(7), 1);
        DUE.is("5: refused", Due.law(x, 1, "way a knows 1 when;"), -1);
        DUE.is("5: all stays", x.has(7), 1);
        DUE.is("5: fault", x.fault(0), 1);
        DUE.is("5: fault", x.fault(1), 18);
        DUE.is("5: no such number", Due.law(x, 3, Due.SURE), -2);
        DUE.is("5: the tape is gone", x.end(1), false);
        DUE.is("5: no such number", Due.law(x, -1, "x"), -2);
        DUE.is("5: no fault told", x.fault(1), 18);
        DUE.is("5: an empty law", Due.law(x, 2, ""), 0);
        DUE.is("5: it is one", x.has(1), 2);
        DUE.is("5: trials stay", x.trial(0, 0, 0, 9, 0, 0, true, 1), 1);
        DUE.is("5: law 0", Due.law(x, 0, "line 1 when all;".repeat(40)), 40);
        DUE.is("5: trials stay", x.has(2), 1);
    }

    private static void plans() {
        BlindSide x = Due.with(Due.FIELD, Due.LAW);
        DUE.is("6: statements, those in brackets too", Due.plan(x, "show face 1 2 3;times 2 [show cross 0 0 1;times 3[];];"), 4);
        DUE.is("6: showings", x.has(9), 3);
        DUE.is("6: refused", Due.plan(x, "show face 1 2;"), -1);
        DUE.is("6: the tape is gone", x.end(1), false);
        DUE.is("6: all stays", x.has(9), 3);
        DUE.is("6: an empty plan", Due.plan(x, ""), 0);
        DUE.is("6: an empty plan", x.has(9), 0);
        DUE.is("6: an empty plan runs", x.run(0, 1), 0);
        DUE.is("6: a million at most", Due.plan(x, "times 9[".repeat(6) + "show face 1 2 3;show face 1 2 3;" + "];".repeat(6)), 8);
        DUE.is("6: a million at most", x.has(9), 1000000);
        DUE.is("6: below a million", Due.plan(x, "times 9[".repeat(6) + "show face 1 2 3;" + "];".repeat(6)), 7);
        DUE.is("6: below a million", x.has(9), 531441);
    }

    private static void faultsOfFields() {
        DUE.refuses(0, "x;", 1, 0);
        DUE.refuses(0, " Sight 1 when all;", 1, 1);
        DUE.refuses(0, "way a knows 1 when all;", 1, 0);
        DUE.refuses(0, "sigh 1 when all;", 1, 0);
        DUE.refuses(0, "sightx 1 when all;", 1, 0);
        DUE.refuses(0, "sight", 1, 5);
        DUE.refuses(0, "sight 1 when all  ", 1, 18);
        DUE.refuses(0, ";", 1, 0);
        DUE.refuses(0, "disc 1 1;;", 1, 9);
        DUE.refuses(0, "disc 1\t1;", 1, 6);
        DUE.refuses(0, "disc 1 1 1;", 1, 9);
        DUE.refuses(0, "disc 11 7", 1, 9);
        DUE.refuses(0, "disc x 7;", 1, 5);
        DUE.refuses(0, "disc 12 7;", 2, 5);
        DUE.refuses(0, "disc 11 8;", 2, 8);
        DUE.refuses(0, "disc 00012 8;", 1, 9);
        DUE.refuses(0, "disc5 5;", 1, 4);
        DUE.refuses(0, "thing 3 3;", 1, 6);
        DUE.refuses(0, "thing max 3;", 1, 6);
        DUE.refuses(0, "thing abcdefgh 3;", 1, 12);
        DUE.refuses(0, "thing columns 3;", 1, 12);
        DUE.refuses(0, "thing aB 3;", 1, 7);
        DUE.refuses(0, "thing a3;", 1, 7);
        DUE.refuses(0, "thing a 1;", 2, 8);
        DUE.refuses(0, "thing a 7;", 2, 8);
        DUE.refuses(0, "thing a 3; thing a 9;", 3, 17);
        DUE.refuses(0, "thing a 2;thing b 2;thing c 2;thing d 2;thing e 2; thing", 5, 51);
        DUE.takes(0, "disc 0011 7;thing a 2;thing ab 6;thing abcdef 3;thing d 2;thing alls 2;", 6);
        DUE.takes(0, "thing a 2;thing b 2;thing c 2;thing d 2;thing e 2;disc 1 1;", 6);
    }

    private static void faultsOfSums() {
        DUE.refuses(0, "sight when all;", 1, 6);
        DUE.refuses(0, "sight 12345 when all;", 1, 10);
        DUE.refuses(0, "sight 3when all;", 1, 7);
        DUE.refuses(0, "sight3 when all;", 1, 5);
        DUE.refuses(0, "sight 1 2 when all;", 1, 8);
        DUE.refuses(0, "sight 1 + when all;", 1, 10);
        DUE.refuses(0, "sight 1 * ; when all;", 1, 10);
        DUE.refuses(0, "sight -1 when all;", 1, 6);
        DUE.refuses(0, "sight (1 when all;", 1, 9);
        DUE.refuses(0, "sight 1) when all;", 1, 7);
        DUE.refuses(0, "sight min 1 when all;", 1, 10);
        DUE.refuses(0, "sight min(1) when all;", 1, 11);
        DUE.refuses(0, "sight max(1,2,3) when all;", 1, 13);
        DUE.refuses(0, "sight face when all;", 1, 6);
        DUE.refuses(0, "sight 1 when;", 1, 12);
        DUE.refuses(0, "sight 1 when 1;", 1, 14);
        DUE.refuses(0, "sight 1 when 1 < 2 < 3;", 1, 19);
        DUE.refuses(0, "sight 1 when (1 < 2);", 1, 16);
        DUE.refuses(0, "sight 1 when [1 < 2;", 1, 19);
        DUE.refuses(0, "sight 1 when [1 < 2);", 1, 19);
        DUE.refuses(0, "sight 1 when all or;", 1, 19);
        DUE.refuses(0, "sight 1 when all and or;", 1, 21);
        DUE.refuses(0, "sight 1 when not;", 1, 16);
        DUE.refuses(0, "sight 1 when all not all;", 1, 17);
        DUE.refuses(0, "sight 1 when 1 ! 2;", 1, 15);
        DUE.takes(0, "sight 0001+column*row/bright-sight-light-kind when(1)<2 or 1>2 and 1=2;", 1);
        DUE.takes(0, "sight min(1,max(2,3))when not not all and[all or all];", 1);
    }

    private static void faultsOfDepth() {
        DUE.takes(0, "sight " + "(".repeat(6) + "1" + ")".repeat(6) + REST, 1);
        DUE.refuses(0, "sight " + "(".repeat(7) + "1" + ")".repeat(7) + REST, 4, 12);
        DUE.refuses(0, "sight " + "(".repeat(6) + "min(1,2)", 4, 15);
        DUE.refuses(0, "sight " + "(".repeat(5) + "min(1,max(1,2))", 4, 20);
        DUE.takes(0, "sight " + "(".repeat(5) + "min(1,2)+max(1,2)" + ")".repeat(5) + REST, 1);
        DUE.takes(0, "sight min(" + "(".repeat(5) + "1" + ")".repeat(5) + "," + "(".repeat(5) + "2" + ")".repeat(6) + REST, 1);
        DUE.refuses(0, "sight min(" + "(".repeat(6) + "1" + ")".repeat(6) + ",2)" + REST, 4, 15);
        DUE.refuses(0, "sight max(1," + "(".repeat(6) + "2" + ")".repeat(7) + REST, 4, 17);
        DUE.takes(0, "sight 1 when " + "not ".repeat(6) + "all and " + "not ".repeat(6) + "all;", 1);
        DUE.refuses(0, "sight 1 when " + "not ".repeat(7) + "all;", 4, 37);
        DUE.refuses(0, "sight 1 when not [not [not (1) = (((1", 4, 34);
        DUE.refuses(0, "sight 1 when not [not [not (1)=(1) and (((1", 4, 41);
        DUE.takes(0, "sight 1 when [[[[[[all]]]]]] and [[[not ((1))=((1))]]];", 1);
        DUE.refuses(0, "sight 1 when [[[[[[[all]]]]]]];", 4, 19);
        DUE.takes(2, "times 1[".repeat(6) + "];".repeat(6), 6);
        DUE.refuses(2, "times 1[".repeat(7) + "];".repeat(7), 4, 55);
        DUE.takes(2, "times 1[".repeat(5) + "show face 1 1 (1);" + "];".repeat(5), 6);
        DUE.refuses(2, "times 1[".repeat(5) + "show face 1 1 ((1));" + "];".repeat(5), 4, 55);
        DUE.refuses(2, "times 1[".repeat(6) + "show face 1 1 (1);" + "];".repeat(6), 4, 62);
    }

    private static void faultsOfLaws() {
        DUE.refuses(1, "sight 1 when all;", 1, 0);
        DUE.refuses(1, "way knows knows 1 when all;", 1, 4);
        DUE.refuses(1, "way a sees 1 when all;", 1, 6);
        DUE.refuses(1, "way a knows1 when all;", 1, 11);
        DUE.refuses(1, "way abcdefg knows 1 when all;", 1, 10);
        DUE.refuses(1, "way a knows 1 when all;way a blind 1 when all;", 3, 27);
        DUE.refuses(1, "line 1 when all;line", 1, 20);
        DUE.refuses(1, "way a knows 1 when all", 1, 22);
        String five = "way a knows 1 when all;way b knows 1 when all;way c knows 1 when all;way d knows 1 when all;way e knows 1 when all;";
        DUE.takes(1, five + "line 1 when all;", 6);
        DUE.refuses(1, five + " way f", 5, 116);
        DUE.takes(1, "way face knows 1 when all;", 1);
    }

    private static void faultsOfPlans() {
        DUE.refuses(2, "show times", 1, 5);
        DUE.refuses(2, "show x 0 0 5;", 3, 5);
        DUE.refuses(2, "show abcdefg 0 0 5;", 1, 11);
        DUE.refuses(2, "show abcde 0 0 5;", 3, 5);
        DUE.refuses(2, "show face 12", 2, 10);
        DUE.refuses(2, "show face 0 8", 2, 12);
        DUE.refuses(2, "show face 0 0 ;", 1, 14);
        DUE.refuses(2, "show face 0 0bright;", 1, 13);
        DUE.refuses(2, "times 10 [", 2, 6);
        DUE.refuses(2, "times 0 [", 2, 6);
        DUE.refuses(2, "times 2 show", 1, 8);
        DUE.refuses(2, "times 2 (", 1, 8);
        DUE.refuses(2, "times 2 [x", 1, 9);
        DUE.refuses(2, "times 2 [", 1, 9);
        DUE.refuses(2, "times 2 []", 1, 10);
        DUE.refuses(2, "times 2 [times 1 []];", 1, 19);
        DUE.refuses(2, "];", 1, 0);
        DUE.refuses(2, "show face 1 1 1;]", 1, 16);
        DUE.takes(2, "show abcdef 11 7 bright;times 9[];", 2);
    }

    private static void tooManyStatements() {
        DUE.refuses(0, "disc 1 1;".repeat(40) + " ?", 5, 361);
        DUE.refuses(0, "disc 1 1;".repeat(40) + "disc 1 1;", 5, 360);
        DUE.refuses(1, "line 1 when all;".repeat(40) + "]", 5, 640);
        DUE.takes(1, "line 1 when all;".repeat(40) + " \n", 40);
        DUE.refuses(2, "times 1[];".repeat(40) + "]", 5, 400);
        DUE.refuses(2, "times 1[" + "times 1[];".repeat(39) + "x", 5, 398);
        DUE.refuses(2, "times 1[" + "times 1[];".repeat(39) + " ", 1, 399);
        DUE.refuses(2, "times 1[" + "times 1[];".repeat(39) + "];x", 5, 400);
        DUE.takes(2, "times 1[" + "times 1[];".repeat(39) + "];", 40);
    }

    /** As many signs, words and numbers as a tape can hold. */
    private static void longTexts() {
        BlindSide x = Due.with("thing a 2;");
        String ones = "line 1" + "+1".repeat(42) + " when 1=1" + "/1".repeat(399) + ";";
        DUE.is("2: a full tape", ones.length(), 898);
        DUE.is("5: a full tape", Due.law(x, 0, ones + " \n"), 1);
        DUE.is("5: a full tape", x.carries(0, -3, 0, 0, 0, 5), 43);
        DUE.is("5: cut off", Due.law(x, 0, ones.substring(0, 897)), -1);
        DUE.is("5: cut off", x.fault(1), 897);
        DUE.is("5: signs alone", Due.law(x, 0, "(".repeat(900)), -1);
        DUE.is("5: signs alone", x.fault(0), 1);
        DUE.is("5: signs alone", Due.law(x, 0, "line " + "(".repeat(895)), -1);
        DUE.is("5: signs alone", x.fault(1), 11);
        Due.law(x, 0, "line 9 when not all;".repeat(39) + "line 8 when all;");
        DUE.is("5: the last line", x.carries(0, -3, 0, 0, 0, 5), 8);
        StringBuilder lines = new StringBuilder();
        for (int k = 0; k < 40; k++) {
            lines.append("line ").append(k).append(" when bright=").append(k).append(';');
        }
        DUE.is("5: 40 lines", lines.length(), 900);
        DUE.is("5: 40 lines", Due.law(x, 0, lines.toString()), 40);
        for (int k = 0; k < 40; k++) {
            DUE.is("5: line " + k, x.carries(0, -3, 0, 0, 0, k), k);
        }
        StringBuilder shows = new StringBuilder();
        for (int k = 0; k < 40; k++) {
            shows.append("show a 1 1 ").append(k).append("+1;");
        }
        DUE.is("6: 40 shows", Due.plan(x, shows.toString()), 40);
        x.run(0, 1);
        for (int k = 0; k < 40; k++) {
            DUE.is("6: show " + k, x.tried(k, 3), k + 1);
        }
    }

    /** A text leaves nothing behind for those that come after it. */
    private static void textsInTurn() {
        BlindSide x = Due.with("thing a 2;", "");
        for (int turn = 0; turn < 8; turn++) {
            Due.law(x, turn % 3, "line 1" + "+1".repeat(400) + " when all;");
            Due.law(x, turn % 3, "way a knows " + turn + "+1 when all;");
            DUE.is("5: turn " + turn, x.carries(turn % 3, -1, 0, 0, 0, 9), turn + 1);
        }
        Due.law(x, 0, "way a knows 1 when all;way b knows 99 when all;");
        Due.law(x, 1, "way a knows 1 when all;way b knows 99 when all;");
        Due.law(x, 2, "way a knows 1 when all;way b knows 99 when all;");
        Due.law(x, 0, "way a knows 1 when all;line 1 when all;");
        DUE.is("5: no way of an earlier one", x.carries(0, -1, 0, 0, 0, 9), 1);
        Due.plan(x, "times 2[show a 1 1 1;show a 1 1 2;];show a 1 1 3;");
        Due.plan(x, "times 2[show a 1 1 4;show a 1 1 5;];show a 1 1 6;");
        DUE.is("6: showings", x.has(9), 5);
        Due.plan(x, "show a 1 1 7;times 2[show a 1 1 8;];show a 1 1 9;show a 1 1 9;");
        Due.plan(x, "show a 1 1 7;show a 1 1 8;show a 1 1 9;show a 1 1 9;");
        DUE.is("6: showings", x.has(9), 4);
        DUE.is("6: run", x.run(0, 4), 4);
        DUE.is("6: the second", x.tried(1, 3), 8);
        Due.law(x, 0, "line 1" + "+1".repeat(40) + " when all;line 1 when all;line 1 when all;");
        Due.law(x, 0, "");
        Due.plan(x, "show a 1 1 4;show a 1 1 5;show a 1 1 6;");
        DUE.is("6: run", x.run(0, 4), 3);
        DUE.is("6: the second, short behind a long one", x.tried(5, 3), 5);
        DUE.is("6: the third, short behind a long one", x.tried(6, 3), 6);
        x.carries(0, -1, 0, 3, 3, 9);
        DUE.is("4: nothing is shown in a field", Due.field(x, "thing a 2;thing b 2;sight 5 when all;"), 3);
        x.carries(0, -1, 1, 3, 3, 50);
        Due.field(x, "sight 2 when bright = 0 and sight = 0 and light = 0 and kind = 0;");
        DUE.is("4: nothing is shown in a field", x.sight(0, 0), 2);
    }

    private static void latestFault() {
        BlindSide x = new BlindSide();
        DUE.is("7: ahead of any", x.fault(0), 0);
        DUE.is("7: ahead of any", x.fault(1), -1);
        DUE.is("7: another what", x.fault(2), -1);
        DUE.is("7: another what", x.fault(-1), -1);
        Due.field(x, "disc 1 9;");
        DUE.is("7: of field", x.fault(0), 2);
        DUE.is("7: of field", x.fault(1), 7);
        Due.law(x, 0, "line 1 when all;");
        DUE.is("7: of law", x.fault(0), 0);
        DUE.is("7: of law", x.fault(1), -1);
        Due.plan(x, "show a");
        DUE.is("7: of plan", x.fault(0), 3);
        DUE.is("7: of plan", x.fault(1), 5);
        Due.feed(x, "x");
        x.on();
        DUE.is("7: an image has none", x.fault(0), 3);
    }

    private static void having() {
        BlindSide x = Due.with(Due.FIELD, Due.LAW, Due.EYE, "way a knows 1 when all; line 1 when all; way b blind 1 when all;");
        x.chair(3, 3, true);
        x.trial(0, 0, 0, 9, 0, 0, true, 1);
        Due.plan(x, "times 4[show cross 1 1 1;];");
        int[] has = {2, 3, 1, 1, 50, 56, 3, 1, 2, 4};
        for (int what = 0; what < has.length; what++) {
            DUE.is("8: has(" + what + ")", x.has(what), has[what]);
        }
        DUE.is("8: others", x.has(10), -1);
        DUE.is("8: others", x.has(-1), -1);
    }

    private static void letters() {
        BlindSide x = Due.with("thing az 2; thing abcdef 3;", "way zoo knows 1 when all;");
        int[] az = {1, 26, 0, 0, 0, 0};
        for (int k = 0; k < 6; k++) {
            DUE.is("9: az " + k, x.letter(-1, 0, k), az[k]);
            DUE.is("9: abcdef " + k, x.letter(-1, 1, k), k + 1);
        }
        DUE.is("9: zoo", x.letter(0, 0, 0), 26);
        DUE.is("9: zoo", x.letter(0, 0, 2), 15);
        DUE.is("9: behind it", x.letter(0, 0, 3), 0);
        DUE.is("9: no such letter", x.letter(0, 0, 6), -1);
        DUE.is("9: no such letter", x.letter(0, 0, -1), -1);
        DUE.is("9: no such way", x.letter(0, 1, 0), -1);
        DUE.is("9: no such thing", x.letter(-1, 2, 0), -1);
        DUE.is("9: no such thing", x.letter(-1, -1, 0), -1);
        DUE.is("9: no such law", x.letter(1, 0, 0), -1);
        DUE.is("9: no such law", x.letter(-2, 0, 0), -1);
        DUE.is("9: no such law", x.letter(3, 0, 0), -1);
    }
}
