/** Promises 10 to 13: sight, piece, pieceHas, light; and how SUMS and TESTS are reckoned. */
public final class FieldTest {
    private static final Due DUE = new Due();

    public static void main(String[] args) {
        sights();
        sums();
        tests();
        pieces();
        likePieces();
        piecesInTurn();
        lights();
        DUE.end();
    }

    private static void sights() {
        BlindSide x = Due.with("sight 4 when row = 1; sight column when row < 3; sight 3 - column when row = 3; disc 5 2;");
        DUE.is("10: the first whose test holds", x.sight(9, 1), 4);
        DUE.is("10: a sum", x.sight(8, 0), 8);
        DUE.is("10: above 9", x.sight(11, 0), 9);
        DUE.is("10: below 0", x.sight(4, 3), 0);
        DUE.is("10: not below 0", x.sight(1, 3), 2);
        DUE.is("10: without one", x.sight(3, 4), 0);
        DUE.is("10: the disc", x.sight(5, 2), 0);
        DUE.is("10: beside it", x.sight(6, 2), 6);
        DUE.is("10: no such column", x.sight(12, 0), -1);
        DUE.is("10: no such column", x.sight(-1, 0), -1);
        DUE.is("10: no such row", x.sight(0, 8), -1);
        DUE.is("10: no such row", x.sight(0, -1), -1);
        DUE.is("10: the last square", Due.with("sight 1 when all;").sight(11, 7), 0);
        DUE.is("10: the last but one", Due.with("sight 1 when all;").sight(10, 7), 1);
        DUE.is("8: squares with sight", Due.with("sight 1 when all;").has(4), 95);
    }

    /** What a SUM comes to, 0 .. 9, at column 4, row 3. */
    private static void sum(String sum, int want) {
        DUE.is("sum " + sum, Due.with("sight " + sum + " when all;").sight(4, 3), want);
    }

    private static void sums() {
        sum("9 - 4 - 3", 2);
        sum("1 + 2 * 3", 7);
        sum("(1 + 2) * 3 - 2", 7);
        sum("8 / 2 / 2", 2);
        sum("8 / 3 * 3", 6);
        sum("7 / 0 + 5", 5);
        sum("5 + (0 - 7) / 2", 1);
        sum("5 + 7 / (0 - 2)", 1);
        sum("5 + (0 - 7) / (0 - 2)", 8);
        sum("column * 2 - row", 5);
        sum("2 + bright + sight + light + kind", 2);
        sum("min(column, row) * 2", 6);
        sum("max(column, row) * 2", 8);
        sum("max(min(9, 8), 7)", 8);
        sum("9999 * 9999 / 1000 - 995", 5);
        sum("9999 * 101 - 9999 * 101 + 3", 3);
        sum("9999 * 100 + 9999 - 9999 * 100 - 95", 5);
        sum("(0 - 9999 * 9999) / 1000 + 1005", 5);
        sum("0 - 9999 * 100 - 9999 + 9999 * 100 + 104", 4);
        sum("0 - 9999 * 100 - 9999 + 9999 * 100 + 109", 9);
    }

    /** Whether a TEST holds at column 4, row 3. */
    private static void test(String test, boolean want) {
        DUE.is("test " + test, Due.with("sight 1 when " + test + ";").sight(4, 3), want ? 1 : 0);
    }

    private static void tests() {
        test("all", true);
        test("not all", false);
        test("column = 4", true);
        test("column = 5", false);
        test("column < 4", false);
        test("column < 5", true);
        test("column > 4", false);
        test("column > 3", true);
        test("all or not all and not all", true);
        test("[all or not all] and not all", false);
        test("not all or all", true);
        test("not [all or all]", false);
        test("not row = 2 and column = 4", true);
        test("not not row = 3", true);
        test("row + 1 = column", true);
        test("not all and all or all", true);
    }

    private static void pieces() {
        BlindSide x = Due.with(Due.FIELD);
        DUE.is("11: seen side", x.piece(0, 0), 0);
        DUE.is("11: seen side", x.piece(5, 7), 0);
        DUE.is("11: island", x.piece(9, 2), 1);
        DUE.is("11: island", x.piece(10, 2), 1);
        DUE.is("11: no sight", x.piece(6, 0), -1);
        DUE.is("11: no such square", x.piece(12, 0), -1);
        DUE.is("11: no such square", x.piece(0, -1), -1);
        DUE.is("12: size", x.pieceHas(0, 0), 48);
        DUE.is("12: first", x.pieceHas(1, 1), 33);
        DUE.is("12: seen side", x.pieceHas(0, 2), 0);
        DUE.is("12: island", x.pieceHas(1, 2), 1);
        DUE.is("12: island's size", x.pieceHas(1, 0), 2);
        DUE.is("12: others", x.pieceHas(1, 3), -1);
        DUE.is("12: others", x.pieceHas(1, -1), -1);
        DUE.is("12: no such piece", x.pieceHas(2, 0), -1);
        DUE.is("12: no such piece", x.pieceHas(-1, 0), -1);
        // a line's end and the next one's beginning do not touch, nor do corners
        BlindSide y = Due.with("sight 1 when row = 0 and column = 11 or row = 1 and column = 0 or row = 2 and column = 1;");
        DUE.is("11: three", y.piece(11, 0), 0);
        DUE.is("11: three", y.piece(0, 1), 1);
        DUE.is("11: three", y.piece(1, 2), 2);
        // one that goes down, aside, and up again
        BlindSide z = Due.with("sight 1 when row = 2 or column = 0 and row < 3 or column = 2 and row < 3;");
        DUE.is("11: hangs together", z.piece(2, 0), 0);
        DUE.is("12: hangs together", z.pieceHas(0, 0), 16);
        DUE.is("12: hangs together", z.pieceHas(1, 0), -1);
    }

    private static void likePieces() {
        BlindSide x = Due.with("sight 1 when column = 11 and row < 2 or column = 0 and row < 2 or column = 5 and row = 1;");
        DUE.is("12: like ones, the first", x.pieceHas(0, 2), 0);
        DUE.is("12: like ones, the second", x.pieceHas(1, 2), 1);
        DUE.is("12: the small one", x.pieceHas(2, 2), 1);
        DUE.is("12: where the small one is", x.pieceHas(2, 1), 17);
        BlindSide chess = Due.with("sight 1 when (column + row) / 2 * 2 = column + row;");
        DUE.is("11: as many pieces as can be", chess.piece(10, 6), 41);
        DUE.is("12: as many pieces as can be", chess.pieceHas(46, 0), 1);
        DUE.is("12: the disc is of none", chess.pieceHas(47, 0), -1);
        // a greater one behind a smaller one
        BlindSide late = Due.with("sight 2 when column = 0 and row = 0 or row = 5;");
        DUE.is("12: the first is an island", late.pieceHas(0, 2), 1);
        DUE.is("12: the second is the seen side", late.pieceHas(1, 2), 0);
    }

    private static void piecesInTurn() {
        BlindSide x = Due.with("sight 1 when row = 0 and column = 5 or row = 1 and column > 2 and column < 6 or row = 2 and column = 3;");
        DUE.is("11: to the left and down", x.piece(3, 2), 0);
        DUE.is("12: to the left and down", x.pieceHas(0, 0), 5);
        Due.field(x, "sight 1 when column = 1 and row = 3 or column = 0 and row = 4 or column = 1 and row = 4;");
        DUE.is("11: the first column too", x.piece(0, 4), 0);
        DUE.is("12: of the latest field", x.pieceHas(0, 0), 3);
        DUE.is("12: of the latest field", x.pieceHas(0, 2), 0);
        Due.field(x, "sight 1 when column = 5;");
        Due.field(x, "sight 1 when column = 5 and row = 0 or column = 7 and row < 2;");
        DUE.is("12: the seen side of the latest field", x.pieceHas(0, 2), 1);
        DUE.is("12: no more of them", x.pieceHas(2, 0), -1);
        Due.field(x, "sight 1 when column = 5 and row = 0;");
        DUE.is("12: a small one is the seen side, too", x.pieceHas(0, 2), 0);
        Due.field(x, "");
        DUE.is("12: none", x.pieceHas(0, 0), -1);
    }

    private static void lights() {
        BlindSide x = Due.with(Due.FIELD);
        DUE.is("13: on the disc", x.light(8, 4, 90), 9);
        DUE.is("13: in the gone side", x.light(7, 0, 60), 12);
        DUE.is("13: not of itself", x.light(9, 2, 90), 10);
        DUE.is("13: rounded down", x.light(0, 0, 99), 49);
        DUE.is("13: nothing", x.light(0, 0, 0), 0);
        DUE.is("13: no such column", x.light(12, 0, 5), -1);
        DUE.is("13: no such row", x.light(0, 8, 5), -1);
        DUE.is("13: too bright", x.light(0, 0, 100), -1);
        DUE.is("13: below 0", x.light(0, 0, -1), -1);
        DUE.is("13: no sight at all", new BlindSide().light(3, 3, 99), 0);
        BlindSide one = Due.with("sight 9 when column = 3 and row = 3;");
        DUE.is("13: its own does not count", one.light(3, 3, 99), 0);
        DUE.is("13: one column", one.light(4, 3, 99), 49);
        DUE.is("13: both", one.light(5, 4, 99), 16);
        DUE.is("13: far", one.light(11, 7, 99), 1);
        DUE.is("13: from the first square", Due.with("sight 1 when column + row = 0;").light(1, 0, 90), 5);
        // faint and near against strong and far
        BlindSide two = Due.with("sight 1 when column = 1 and row = 0; sight 9 when column = 4 and row = 0;");
        DUE.is("13: the far one gives more", two.light(2, 0, 90), 18);
        DUE.is("13: the near one gives more", two.light(0, 0, 90), 5);
        Due.field(two, "sight 9 when column = 1;");
        DUE.is("13: of the latest field", two.light(2, 0, 90), 45);
    }
}
