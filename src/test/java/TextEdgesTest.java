/** The edges of the texts: Terms I, and promises 1 to 9. */
public final class TextEdgesTest {
    private static final Due DUE = new Due();
    private static final int F = Due.FIELD_TEXT;
    private static final int L = Due.LAW_TEXT;
    private static final int P = Due.PLAN_TEXT;
    private static final String REST = " when all;";

    public static void main(String[] args) {
        fieldText();
        fieldStatements();
        lawText();
        planText();
        shownTimes();
        names();
        tests();
        parts();
        blanks();
        ownWords();
        unfitBytes();
        unfitNamesAndNumbers();
        numbersThatCannotBe();
        namesThatCannotBe();
        openAtOnce();
        tooMany();
        DUE.end();
    }

    private static void fieldText() {
        DUE.by(4, "THE FIELD is a text: { STATEMENT ; } (40 at most).");
        DUE.takes(F, "", 0);
        DUE.takes(F, " ", 0);
        DUE.takes(F, "disc 1 1;", 1);
        DUE.refuses(F, "disc 1 1", 1, 8);
        DUE.refuses(F, "disc 1 1;;", 1, 9);
        DUE.takes(F, "disc 1 1;".repeat(39), 39);
        DUE.takes(F, "disc 1 1;".repeat(40), 40);
        DUE.refuses(F, "disc 1 1;".repeat(41), 5, 360);
        DUE.by(4, "There are SQUARES by column 0 .. 11 and row 0 .. 7.");
        DUE.takes(F, "disc 0 0;disc 11 7;", 2);
        DUE.refuses(F, "disc 12 7;", 2, 5);
        DUE.refuses(F, "disc 11 8;", 2, 8);
        DUE.takes(P, "show face 0 0 1;show face 11 7 1;", 2);
        DUE.refuses(P, "show face 12 7 1;", 2, 10);
        DUE.refuses(P, "show face 11 8 1;", 2, 13);
    }

    private static void fieldStatements() {
        DUE.by(4, "STATEMENTS: sight SUM when TEST; disc N N (column, row; the last one counts; 11 7 without);");
        DUE.is("without one", Due.with("").has(5), 95);
        DUE.is("one", Due.with("disc 0 0;").has(5), 0);
        DUE.is("the last of two", Due.with("disc 3 1;disc 2 1;").has(5), 14);
        DUE.is("the last of two, then others", Due.with("disc 3 1;disc 11 0;thing a 2;sight 1 when all;").has(5), 11);
        DUE.is("without one again", discBehindAnother(), 95);
        DUE.by(4, "thing NAME N (a THING, shown in N sorts, 2 .. 6; 5 at most).");
        DUE.refuses(F, "thing a 1;", 2, 8);
        DUE.takes(F, "thing a 2;", 1);
        DUE.takes(F, "thing a 6;", 1);
        DUE.refuses(F, "thing a 7;", 2, 8);
        DUE.takes(F, things(5), 5);
        DUE.is("five", Due.with(things(5)).has(0), 5);
        DUE.refuses(F, things(6), 5, 50);
        DUE.is("two sorts: the last", Due.with("thing a 2;").trial(0, 0, 0, 1, 1, 1, true, 1), 1);
        DUE.is("two sorts: one more", Due.with("thing a 2;").trial(0, 0, 0, 1, 2, 1, true, 1), -1);
        DUE.is("six sorts: the last", Due.with("thing a 6;").trial(0, 0, 0, 1, 5, 5, true, 1), 1);
        DUE.is("six sorts: one more", Due.with("thing a 6;").trial(0, 0, 0, 1, 6, 5, true, 1), -1);
    }

    private static int discBehindAnother() {
        BlindSide x = Due.with("disc 3 1;");
        Due.field(x, "sight 1 when all;");
        return x.has(5);
    }

    private static String things(int many) {
        return "thing a 2;thing b 2;thing c 2;thing d 2;thing e 2;thing f 2;".substring(0, 10 * many);
    }

    private static String ways(int many) {
        StringBuilder text = new StringBuilder();
        for (int k = 0; k < many; k++) {
            text.append("way ").append((char) ('a' + k)).append(" blind 1 when all;");
        }
        return text.toString();
    }

    private static void lawText() {
        DUE.by(5, "A LAW (3 at most, numbers 0 .. 2) is a text: { STATEMENT ; } (40 at most).");
        BlindSide x = new BlindSide();
        DUE.is("law -1", Due.law(x, -1, ""), -2);
        DUE.is("law 0", Due.law(x, 0, ""), 0);
        DUE.is("law 2", Due.law(x, 2, ""), 0);
        DUE.is("law 1", Due.law(x, 1, ""), 0);
        DUE.is("law 3", Due.law(x, 3, ""), -2);
        DUE.is("three of them", x.has(1), 3);
        DUE.takes(L, "line 1 when all;".repeat(40), 40);
        DUE.refuses(L, "line 1 when all;".repeat(41), 5, 640);
        DUE.by(5, "STATEMENTS: way NAME knows SUM when TEST, or way NAME blind SUM when TEST (5 WAYS at most, unlike NAMES); line SUM when TEST.");
        DUE.takes(L, ways(5), 5);
        DUE.takes(L, ways(5) + "line 1 when all;", 6);
        DUE.refuses(L, ways(6), 5, 115);
        DUE.takes(L, "way a knows 1 when all;way aa blind 1 when all;", 2);
        DUE.refuses(L, "way a knows 1 when all;way a blind 1 when all;", 3, 27);
        DUE.refuses(L, "way a 1 when all;", 1, 6);
        DUE.refuses(L, "way a knows 1;", 1, 13);
        DUE.refuses(L, "line when all;", 1, 5);
    }

    private static void planText() {
        DUE.by(6, "A PLAN is a text: { STATEMENT ; } (40 at most, those in brackets, too): show NAME N N SUM (a THING, column, row, how BRIGHT);");
        DUE.takes(P, "", 0);
        DUE.takes(P, "times 1[];".repeat(40), 40);
        DUE.refuses(P, "times 1[];".repeat(41), 5, 400);
        DUE.takes(P, "times 1[" + "times 1[];".repeat(39) + "];", 40);
        DUE.refuses(P, "times 1[" + "times 1[];".repeat(40) + "];", 5, 398);
        DUE.takes(P, "times 1[" + "times 1[];".repeat(38) + "];times 1[];", 40);
        DUE.refuses(P, "times 1[" + "times 1[];".repeat(39) + "];times 1[];", 5, 400);
        DUE.refuses(P, "show face 0 0;", 1, 13);
        DUE.refuses(P, "show face 0 0 1 2;", 1, 16);
    }

    private static void shownTimes() {
        DUE.by(6, "times N [ { STATEMENT ; } ] (1 .. 9: the STATEMENTS in it so many times, one after the other).");
        DUE.refuses(P, "times 0[];", 2, 6);
        DUE.takes(P, "times 1[];", 1);
        DUE.takes(P, "times 9[];", 1);
        DUE.refuses(P, "times 10[];", 2, 6);
        DUE.refuses(P, "times 2[]", 1, 9);
        DUE.refuses(P, "times 2[show face 0 0 1];", 1, 23);
        int[] one = shown("times 1[show a 0 0 1;show b 0 0 2;];");
        DUE.is("once", one.length, 2);
        int[] nine = shown("times 9[show a 0 0 1;show b 0 0 2;];");
        DUE.is("nine times", nine.length, 18);
        for (int k = 0; k < nine.length; k++) {
            DUE.is("one after the other, " + k, nine[k], 1 + k % 2);
        }
        DUE.by(20, "All its SHOWINGS in their order; BRIGHT is the SUM then, 0 .. 99 (below is 0, above 99).");
        int[] order = shown("show a 0 0 0 - 1;show a 0 0 0;show b 0 0 1;show a 0 0 98;show b 0 0 99;show a 0 0 100;show b 0 0 9999 * 9999;"
                + "show b 0 0 0 - 9999 * 9999;");
        int[] want = {0, 0, 1, 98, 99, 99, 99, 0};
        for (int k = 0; k < want.length; k++) {
            DUE.is("bright of showing " + k, order[k], want[k]);
        }
    }

    /** How BRIGHT the SHOWINGS of a PLAN are, in their order. */
    private static int[] shown(String plan) {
        BlindSide x = Due.with("thing a 2;thing b 2;", "");
        Due.plan(x, plan);
        int[] bright = new int[Math.max(0, x.run(0, 1))];
        for (int i = 0; i < bright.length; i++) {
            bright[i] = x.tried(i, 3);
        }
        return bright;
    }

    private static void names() {
        DUE.by(9, "NAMES: 1 to 6 letters, no OWN WORD.");
        DUE.refuses(F, "thing 2;", 1, 6);
        DUE.takes(F, "thing a 2;", 1);
        DUE.takes(F, "thing abcdef 2;", 1);
        DUE.refuses(F, "thing abcdefg 2;", 1, 12);
        DUE.refuses(F, "thing a1 2;", 1, 7);
        DUE.refuses(F, "thing a_b 2;", 1, 7);
        DUE.refuses(F, "thing A 2;", 1, 6);
        DUE.takes(L, "way abcdef knows 1 when all;", 1);
        DUE.refuses(L, "way abcdefg knows 1 when all;", 1, 10);
        DUE.refuses(L, "way knows 1 when all;", 1, 4);
    }

    private static void tests() {
        DUE.by(4, "TEST: BOTH { or BOTH }. BOTH: FACT { and FACT }. FACT: not FACT; [ TEST ] ; all; SUM SIGN SUM, SIGN < or > or = .");
        DUE.refuses(F, "sight 1 when;", 1, 12);
        DUE.takes(F, "sight 1 when all;", 1);
        DUE.takes(F, "sight 1 when all" + " or all".repeat(120) + ";", 1);
        DUE.takes(F, "sight 1 when all" + " and all".repeat(105) + ";", 1);
        DUE.refuses(F, "sight 1 when all or;", 1, 19);
        DUE.refuses(F, "sight 1 when all and;", 1, 20);
        DUE.refuses(F, "sight 1 when or all;", 1, 13);
        DUE.refuses(F, "sight 1 when not;", 1, 16);
        DUE.refuses(F, "sight 1 when [];", 1, 14);
        DUE.refuses(F, "sight 1 when all all;", 1, 17);
        DUE.refuses(F, "sight 1 when 1 <= 2;", 1, 16);
        DUE.refuses(F, "sight 1 when 1 = 2 = 3;", 1, 19);
        DUE.refuses(F, "sight 1 when 1;", 1, 14);
        DUE.is("equal is not less", holds("4 < 4"), 0);
        DUE.is("one less", holds("3 < 4"), 1);
        DUE.is("equal is not more", holds("4 > 4"), 0);
        DUE.is("one more", holds("5 > 4"), 1);
        DUE.is("equal", holds("4 = 4"), 1);
        DUE.is("not equal", holds("4 = 5"), 0);
        DUE.is("or binds less than and", holds("all or all and not all"), 1);
        DUE.is("not binds most", holds("not all and not all"), 0);
        DUE.is("not takes its FACT alone", holds("not all or all"), 1);
    }

    private static int holds(String test) {
        return Due.with("sight 1 when " + test + ";").sight(0, 0);
    }

    /** A SUM between 0 and 100, as a WAY carries it. */
    private static int carried(String sum) {
        return Due.with("thing a 2;", "way w knows " + sum + REST).carries(0, 0, 0, 4, 3, 50);
    }

    private static void parts() {
        DUE.by(14, "SUM: PRODUCT { + or - PRODUCT }. PRODUCT: PART { * or / PART }. PART: N (1 to 4 digits); column; row; bright; sight; light; kind; ( SUM ) ; min ( SUM , SUM ) ; max ( SUM , SUM ) .");
        DUE.is("one digit", carried("0"), 0);
        DUE.is("four digits", carried("0099"), 99);
        DUE.is("the greatest", carried("9999 - 9900"), 99);
        DUE.refuses(L, "line 10000 when all;", 1, 9);
        DUE.refuses(L, "line 00001 when all;", 1, 9);
        DUE.refuses(L, "line when all;", 1, 5);
        DUE.refuses(L, "line () when all;", 1, 6);
        DUE.refuses(L, "line + 1 when all;", 1, 5);
        DUE.refuses(L, "line 1 + when all;", 1, 9);
        DUE.refuses(L, "line min(1) when all;", 1, 10);
        DUE.refuses(L, "line max(1,2,3) when all;", 1, 12);
        DUE.is("the less of two", carried("min(7, 8) + min(8, 7)"), 14);
        DUE.is("the greater of two", carried("max(7, 8) + max(8, 7)"), 16);
        DUE.by(14, "In a FIELD bright, sight, light, kind are 0; in a PLAN bright tells how many SHOWINGS of it there were ahead, light is 0.");
        DUE.is("in a field", Due.with("sight 3 + bright + sight + light + kind when all;").sight(2, 2), 3);
        int[] ahead = shown("times 9[times 9[show a 0 0 bright;];];");
        DUE.is("none ahead of the first", ahead[0], 0);
        DUE.is("one ahead of the second", ahead[1], 1);
        DUE.is("39 ahead of the last", ahead[39], 39);
        DUE.is("no light", shown("show b 0 0 light + 5;")[0], 5);
        DUE.by(14, "All from the left on; / gives the greatest whole number not above, by 0 it gives 0; each sum, difference, product above 10 to the 6 is that, below -10 to the 6 likewise.");
        DUE.is("from the left on", carried("20 - 5 - 3"), 12);
        DUE.is("from the left on", carried("40 / 4 / 2 * 3"), 15);
        DUE.is("not above", carried("7 / 2"), 3);
        DUE.is("not above, below 0", carried("9 + (0 - 7) / 2"), 5);
        DUE.is("not above, below 0", carried("9 + 7 / (0 - 2)"), 5);
        DUE.is("just even, below 0", carried("9 + (0 - 8) / 2"), 5);
        DUE.is("by 0", carried("9 + 7 / 0"), 9);
        DUE.is("0 by 0", carried("9 + 0 / 0"), 9);
        DUE.is("below 0 by 0", carried("9 + (0 - 7) / 0"), 9);
        limits("1000 * 1000", "a million by a product, and one more");
        limits("1000 * 1000 + 1", "a sum above it");
        limits("1000 * 1000 + 9999", "a sum far above it");
        limits("1000 * 1000 - (0 - 1)", "a difference above it");
        limits("1000 * 1001", "a product above it");
        limits("1000 * 1000 * (1000 * 1000)", "a product far above it");
        limits("(0 - 1000) * 1000 * ((0 - 1000) * 1000)", "a product of two below 0");
        DUE.is("a product below it", carried("(0 - 1000) * 1001 + 9999 * 100 + 150"), 50);
        DUE.is("a product far below it", carried("1000 * 1000 * (0 - 1000 * 1000) + 9999 * 100 + 150"), 50);
        DUE.is("one below the greatest", carried("1000 * 1000 - 1 - 9999 * 100"), 99);
        DUE.is("one above the least", carried("0 - 1000 * 1000 + 1 + 9999 * 100 + 199"), 100);
    }

    /** A SUM that comes to 10 to the 6, and with its sign turned to the least. */
    private static void limits(String sum, String what) {
        DUE.is(what, carried(sum + " - 9999 * 100 - 50"), 50);
        DUE.is(what + ", below 0", carried("(" + sum + ") * (0 - 1) + 9999 * 100 + 150"), 50);
        DUE.is(what + ", below 0 by itself", carried("(0 - 1) * (" + sum + ") - 9999 + 9999 * 100 + 150"), 50);
    }

    private static void blanks() {
        DUE.by(4, "Blanks (10, 32) are where one likes (words and numbers side by side need one).");
        DUE.takes(F, "\n \n disc\n1\n \n1 \n;\n", 1);
        DUE.takes(F, "sight(1)when[column<row]and(1)<2;", 1);
        DUE.refuses(F, "disc\t1 1;", 1, 4);
        DUE.refuses(F, "disc\r1 1;", 1, 4);
        DUE.refuses(F, "disc\u000b1 1;", 1, 4);
        DUE.refuses(F, "\u001fdisc 1 1;", 1, 0);
        DUE.refuses(F, "!disc 1 1;", 1, 0);
        DUE.refuses(F, "\u00a0disc 1 1;", 1, 0);
        DUE.refuses(F, "thing a{ 2;", 1, 7);
        DUE.refuses(F, "thing `a 2;", 1, 6);
        DUE.refuses(F, "disc 1: 1;", 1, 6);
        DUE.refuses(F, "disc /1 1;", 1, 5);
        DUE.refuses(F, "disc1 1;", 1, 4);
        DUE.refuses(F, "thing a2;", 1, 7);
        DUE.refuses(F, "thing a 2 ;thingb 2;", 1, 11);
        DUE.refuses(F, "sight 1when all;", 1, 7);
        DUE.refuses(F, "sight 1 when 1<2or all;", 1, 16);
        DUE.refuses(F, "sight column2 when all;", 1, 12);
        DUE.refuses(F, "disc 1 1 ; di sc 1 1;", 1, 11);
    }

    private static void ownWords() {
        DUE.by(4, "OWN WORDS: sight, disc, thing, way, knows, blind, line, show, times, when, or, and, not, all, column, row, bright, light, kind, min, max.");
        String[] own = {"sight", "disc", "thing", "way", "knows", "blind", "line", "show", "times", "when", "or", "and", "not", "all",
            "column", "row", "bright", "light", "kind", "min", "max"};
        for (String word : own) {
            DUE.refuses(F, "thing " + word + " 2;", 1, 6);
            DUE.refuses(L, "way " + word + " knows 1 when all;", 1, 4);
            DUE.refuses(P, "show " + word + " 0 0 1;", 1, 5);
            DUE.takes(F, "thing " + word.substring(1) + "q 2;", 1);
        }
        DUE.takes(F, "thing sights 2;thing sigh 2;thing maxx 2;thing o 2;thing colum 2;", 5);
    }

    private static void unfitBytes() {
        DUE.by(7, "FAULTS of all, the first along the text: 1 the first byte with which no such text goes on (words and numbers whole, at their first byte;");
        DUE.refuses(F, "?", 1, 0);
        DUE.refuses(F, "disc 1 1; disk 1 1;", 1, 10);
        DUE.refuses(F, "disc 1 1; discs 1 1;", 1, 10);
        DUE.refuses(F, "disc 1 1 123456;", 1, 9);
        DUE.refuses(F, "sight 1 whenever all;", 1, 8);
        DUE.refuses(F, "sight 1 wh;", 1, 8);
        DUE.refuses(F, "line 1 when all;", 1, 0);
        DUE.refuses(L, "disc 1 1;", 1, 0);
        DUE.refuses(L, "show face 1 1 1;", 1, 0);
        DUE.refuses(P, "thing a 2;", 1, 0);
        DUE.refuses(F, "\0", 1, 0);
        DUE.refuses(F, "disc 1 1;\u00ff", 1, 9);
        DUE.refuses(F, "disc 12 1; ?", 2, 5);
        DUE.refuses(F, "? disc 12 1;", 1, 0);
        DUE.refuses(F, "disc ? 12;", 1, 5);
        DUE.refuses(F, "disc 12 ?;", 2, 5);
        DUE.by(7, "at the text's length, if it ends too soon);");
        String whole = "sight ( 1 ) when not [ column = min ( 1 , 2 ) ] ; thing ab 2 ; disc 1 1 ;";
        for (int length = 1; length < whole.length(); length++) {
            String cut = whole.substring(0, length);
            boolean inWord = Character.isLetter(whole.charAt(length)) && !cut.endsWith("a");
            if (!cut.trim().endsWith(";")) {
                DUE.refuses(F, cut, 1, inWord ? cut.lastIndexOf(' ') + 1 : length);
            }
        }
        DUE.refuses(F, "sigh", 1, 0);
        DUE.refuses(F, "disc 1 1  \n", 1, 11);
        DUE.refuses(P, "times 1[", 1, 8);
        DUE.refuses(P, "times 1[];times 1[ ", 1, 19);
    }

    private static void unfitNamesAndNumbers() {
        DUE.by(7, "where a NAME is asked, an OWN WORD so, a 7th letter at itself;");
        DUE.refuses(F, "thing disc 2;", 1, 6);
        DUE.refuses(F, "thing abcdefg 2;", 1, 12);
        DUE.refuses(F, "thing abcdefghijkl 2;", 1, 12);
        DUE.refuses(F, "thing columns 2;", 1, 12);
        DUE.refuses(F, "thing abcdef 2;thing abcdefg 2;", 1, 27);
        DUE.refuses(L, "way abcdefg", 1, 10);
        DUE.refuses(P, "show abcdefg 0 0 1;", 1, 11);
        DUE.refuses(F, "abcdefgh 2;", 1, 0);
        DUE.by(7, "a 5th digit at itself;");
        DUE.refuses(F, "disc 00011 1;", 1, 9);
        DUE.refuses(F, "disc 1 123456;", 1, 11);
        DUE.refuses(F, "thing a 00002;", 1, 12);
        DUE.refuses(F, "sight 99999 when all;", 1, 10);
        DUE.refuses(P, "times 00001[];", 1, 10);
        DUE.refuses(P, "show face 00000 0 1;", 1, 14);
        DUE.takes(F, "disc 0011 0007;", 1);
    }

    private static void numbersThatCannotBe() {
        DUE.by(7, "2 a number (of 1 to 4 digits) that can't be, at it;");
        DUE.refuses(F, "disc 9999 0;", 2, 5);
        DUE.refuses(F, "disc 0012 0;", 2, 5);
        DUE.refuses(F, "disc 0   0008;", 2, 9);
        DUE.refuses(F, "thing a 0;", 2, 8);
        DUE.refuses(F, "thing a 0001;", 2, 8);
        DUE.refuses(F, "thing a 9999;", 2, 8);
        DUE.refuses(P, "times 0000[];", 2, 6);
        DUE.refuses(P, "times 9999[];", 2, 6);
        DUE.refuses(P, "show face 12", 2, 10);
        DUE.takes(F, "thing a 0006;", 1);
        DUE.takes(P, "times 0009[];", 1);
        DUE.takes(F, "sight 9999 when 0 < 9999;", 1);
    }

    private static void namesThatCannotBe() {
        DUE.by(7, "3 a NAME that is there already, in a PLAN one that is no THING's, at it;");
        DUE.refuses(F, "thing a 2;thing b 2;thing a 9;", 3, 26);
        DUE.refuses(F, "thing abcdef 2; thing abcdef", 3, 22);
        DUE.takes(F, "thing a 2;thing aa 2;thing aaa 2;thing ba 2;thing ab 2;", 5);
        DUE.refuses(F, "thing a 2;thing b 2;thing c 2;thing d 2;thing e 2;thing a 2;", 5, 50);
        DUE.refuses(L, "way a knows 1 when all;way b blind 1 when all;way b", 3, 50);
        DUE.refuses(P, "show fac 0 0 1;", 3, 5);
        DUE.refuses(P, "show faces 99 0 1;", 3, 5);
        DUE.refuses(P, "show f", 3, 5);
        DUE.takes(P, "show face 0 0 1;show face 0 0 1;show abcdef 0 0 1;", 3);
        // of the FIELD that was there before, a NAME may be taken again
        DUE.takes(F, "thing face 3;", 1);
        BlindSide x = Due.with("thing old 2;");
        Due.field(x, "thing new 2;");
        DUE.is("one of the field ahead", Due.plan(x, "show old 0 0 1;"), -1);
        DUE.is("one of the field ahead", x.fault(0), 3);
    }

    private static void openAtOnce() {
        DUE.by(7, "4 the 7th ( [ not that is open at once (not until its FACT ends; a [ of times, too), at it;");
        DUE.takes(F, "sight ((((((1))))))" + REST, 1);
        DUE.refuses(F, "sight (((((((1)))))))" + REST, 4, 12);
        DUE.takes(F, "sight ((((((1))))))+((((((1))))))" + REST, 1);
        DUE.takes(F, "sight min(max(min(max(min(max(1,2),2),2),2),2),2)" + REST, 1);
        DUE.refuses(F, "sight min(max(min(max(min(max(min(1,2),2),2),2),2),2),2)" + REST, 4, 33);
        DUE.takes(F, "sight 1 when [[[[[[all]]]]]];", 1);
        DUE.refuses(F, "sight 1 when [[[[[[[all]]]]]]];", 4, 19);
        DUE.takes(F, "sight 1 when not not not not not not all;", 1);
        DUE.refuses(F, "sight 1 when not not not not not not not all;", 4, 37);
        DUE.takes(F, "sight 1 when not [not [not (1)=1]] and not not not not not not all;", 1);
        DUE.refuses(F, "sight 1 when not [not [not (1)=((1))]];", 4, 32);
        DUE.refuses(F, "sight 1 when [[[[[not (1)=1]]]]];", 4, 22);
        DUE.takes(F, "sight 1 when [[[[[not 1=1 and (1)=(1)]]]]];", 1);
        DUE.takes(P, "times 1[times 1[times 1[times 1[times 1[times 1[];];];];];];", 6);
        DUE.refuses(P, "times 1[times 1[times 1[times 1[times 1[times 1[times 1[];];];];];];];", 4, 55);
        DUE.takes(P, "times 1[times 1[times 1[show face 1 1 (((1)));];];];", 4);
        DUE.refuses(P, "times 1[times 1[times 1[show face 1 1 ((((1))));];];];", 4, 41);
        DUE.takes(P, "times 1[times 1[times 1[times 1[times 1[times 1[];];];];];];times 1[times 1[times 1[];];];", 9);
    }

    private static void tooMany() {
        DUE.by(7, "5 a 6th THING or WAY, a 41st STATEMENT (whatever stands there, but a ] that may close, or the text's end), at its first byte.");
        DUE.refuses(F, things(5) + " thing", 5, 51);
        DUE.takes(F, things(5) + " disc 1 1;", 6);
        DUE.refuses(L, ways(5) + "\nway disc", 5, 116);
        String full = "times 1[];".repeat(40);
        DUE.refuses(P, full + "\n\n?", 5, 402);
        DUE.refuses(P, full + "]", 5, 400);
        DUE.refuses(P, full + ";", 5, 400);
        DUE.refuses(P, full + "abcdefgh", 5, 400);
        DUE.refuses(P, full + "12345", 5, 400);
        DUE.takes(P, full + "\n \n", 40);
        String open = "times 1[" + "times 1[];".repeat(39);
        DUE.refuses(P, open + "?", 5, 398);
        DUE.refuses(P, open, 1, 398);
        DUE.refuses(P, open + " ", 1, 399);
        DUE.takes(P, open + " ];", 40);
        DUE.refuses(P, open + "]", 1, 399);
        DUE.refuses(P, open + "];]", 5, 400);
        DUE.refuses(F, "disc 1 1;".repeat(40) + "]", 5, 360);
        DUE.refuses(L, "line 1 when all;".repeat(40) + "]", 5, 640);
    }
}
