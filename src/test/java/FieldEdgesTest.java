/** The edges of the field: promises 10 to 13. */
public final class FieldEdgesTest {
    private static final Due DUE = new Due();
    private static final int LEAST = Integer.MIN_VALUE;
    private static final int MOST = Integer.MAX_VALUE;
    private static final int[] NO_COLUMNS = {-1, 12, LEAST, MOST};
    private static final int[] NO_ROWS = {-1, 8, LEAST, MOST};

    public static void main(String[] args) {
        sights();
        sightOfSquares();
        pieces();
        islands();
        pieceOfSquares();
        pieceHas();
        lights();
        lightRefused();
        DUE.end();
    }

    private static void sights() {
        DUE.by(10, "SIGHT of a SQUARE: the SUM of the first sight whose TEST holds, 0 .. 9 (below is 0, above 9); 0 without one; the DISC has 0.");
        int[] sums = {0, 0, 1, 8, 9, 9, 9, 9, 9, 9, 9, 9};
        BlindSide x = Due.with("sight column - 1 when row = 0 and column < 3;sight column + 5 when row = 0;sight 0 - 9999 * 9999 when row = 1;"
                + "sight 9999 * 9999 when row = 2;sight 5 when row = 3;sight 6 when row = 3 or row = 4;sight 0 when row = 5;"
                + "sight 7 when row > 4 and row < 7;disc 4 3;");
        for (int column = 0; column < 12; column++) {
            DUE.is("at column " + column, x.sight(column, 0), sums[column]);
        }
        DUE.is("far below 0", x.sight(0, 1), 0);
        DUE.is("far above 9", x.sight(0, 2), 9);
        DUE.is("the first", x.sight(0, 3), 5);
        DUE.is("the second, where the first does not hold", x.sight(0, 4), 6);
        DUE.is("the first, though it has 0", x.sight(0, 5), 0);
        DUE.is("the last", x.sight(11, 6), 7);
        DUE.is("without one", x.sight(0, 7), 0);
        DUE.is("the disc", x.sight(4, 3), 0);
        DUE.is("beside it", x.sight(3, 3), 5);
        DUE.is("the disc that is not told", x.sight(11, 7), 0);
        DUE.is("a disc told early", Due.with("disc 0 0;sight 9 when all;").sight(0, 0), 0);
        DUE.is("a disc told again", Due.with("disc 0 0;sight 9 when all;disc 1 0;").sight(0, 0), 9);
    }

    private static void sightOfSquares() {
        DUE.by(10, "SIGHT of a SQUARE; NONE when there is none such.");
        BlindSide x = Due.with("sight 1 + row when all;disc 5 5;");
        DUE.is("the first", x.sight(0, 0), 1);
        DUE.is("the last column", x.sight(11, 0), 1);
        DUE.is("the last row", x.sight(0, 7), 8);
        DUE.is("the last", x.sight(11, 7), 8);
        for (int column : NO_COLUMNS) {
            DUE.leaves("sight(" + column + ", 0)", -1, y -> y.sight(column, 0));
        }
        for (int row : NO_ROWS) {
            DUE.leaves("sight(0, " + row + ")", -1, y -> y.sight(0, row));
        }
    }

    private static void pieces() {
        DUE.by(11, "PIECES of the FIELD: SQUARES with SIGHT that hang together side by side, numbered by their first SQUARES, row by row.");
        BlindSide x = Due.with("sight 1 when column = 11 and row = 0 or column = 0 and row = 1 or column = 1 and row = 2 or column = 3 and row = 1;");
        DUE.is("the end of a row", x.piece(11, 0), 0);
        DUE.is("the beginning of the next does not touch it", x.piece(0, 1), 1);
        DUE.is("further on in the row", x.piece(3, 1), 2);
        DUE.is("corners do not touch", x.piece(1, 2), 3);
        DUE.is("four", x.pieceHas(3, 0), 1);
        DUE.is("no fifth", x.pieceHas(4, 0), -1);
        // a long one: rows 0, 2, 4, 6 joined at their ends in turn
        BlindSide snake = Due.with("sight 1 when row / 2 * 2 = row;sight 1 when column = 11 and [row = 1 or row = 5];sight 1 when column = 0 and row = 3;");
        DUE.is("one that winds", snake.pieceHas(0, 0), 51);
        DUE.is("its end", snake.piece(0, 6), 0);
        DUE.is("no second", snake.pieceHas(1, 0), -1);
        // numbered by the first SQUARE by rows, though the other one begins further to the left
        BlindSide hook = Due.with("sight 1 when column = 5 or column = 4 and row = 7 or column = 0 and row > 0;");
        DUE.is("the one with the first square", hook.piece(4, 7), 0);
        DUE.is("the one to the left", hook.piece(0, 7), 1);
        BlindSide all = Due.with("sight 9 when all;");
        DUE.is("all but the disc", all.pieceHas(0, 0), 95);
        DUE.is("all but the disc", all.pieceHas(1, 0), -1);
        BlindSide chess = Due.with("disc 1 0;sight 1 when (column + row) / 2 * 2 = column + row;");
        DUE.is("48 of them", chess.piece(11, 7), 47);
        DUE.is("48 of them", chess.pieceHas(47, 1), 95);
        DUE.is("no 49th", chess.pieceHas(48, 0), -1);
        BlindSide parted = Due.with("disc 5 0;sight 1 when row = 0;");
        DUE.is("parted by the disc", parted.piece(6, 0), 1);
        DUE.is("left of the disc", parted.pieceHas(0, 0), 5);
        DUE.is("right of the disc", parted.pieceHas(1, 0), 6);
    }

    private static void islands() {
        DUE.by(12, "The greatest one (the first of like ones) is the SEEN SIDE, others are ISLANDS.");
        BlindSide like = Due.with("sight 1 when row = 1 and column < 2 or row = 3 and column < 2 or row = 5 and column < 2;");
        DUE.is("the first of three", like.pieceHas(0, 2), 0);
        DUE.is("the second", like.pieceHas(1, 2), 1);
        DUE.is("the third", like.pieceHas(2, 2), 1);
        BlindSide late = Due.with("sight 1 when row = 1 and column < 2 or row = 3 and column < 3 or row = 5 and column < 3;");
        DUE.is("one smaller", late.pieceHas(0, 2), 1);
        DUE.is("the first of the greatest", late.pieceHas(1, 2), 0);
        DUE.is("the second of the greatest", late.pieceHas(2, 2), 1);
        DUE.is("one alone is no island", Due.with("sight 1 when column = 7 and row = 7;").pieceHas(0, 2), 0);
    }

    private static void pieceOfSquares() {
        DUE.by(11, "The PIECE of a SQUARE; NONE when it has no SIGHT, or there is none such.");
        BlindSide x = Due.with("disc 1 0;sight 1 when column < 2 or column = 11;");
        DUE.is("the first", x.piece(0, 0), 0);
        DUE.is("the last", x.piece(11, 7), 1);
        DUE.is("no sight", x.piece(2, 0), -1);
        DUE.is("the disc", x.piece(1, 0), -1);
        DUE.is("in an empty field", new BlindSide().piece(0, 0), -1);
        for (int column : NO_COLUMNS) {
            DUE.leaves("piece(" + column + ", 0)", -1, y -> y.piece(column, 0));
        }
        for (int row : NO_ROWS) {
            DUE.leaves("piece(0, " + row + ")", -1, y -> y.piece(0, row));
        }
    }

    private static void pieceHas() {
        DUE.by(12, "Of a PIECE: 0 how many SQUARES, 1 its first SQUARE (12 row + column), 2 whether it is an ISLAND. NONE when there is none such, or for others.");
        BlindSide x = Due.with("disc 0 0;sight 1 when column = 11 and row > 5 or column = 2 and row < 3 or column = 1 and row = 2;");
        int[][] has = {{4, 2, 0}, {2, 83, 1}};
        for (int piece = 0; piece < has.length; piece++) {
            for (int what = 0; what < 3; what++) {
                DUE.is("pieceHas(" + piece + ", " + what + ")", x.pieceHas(piece, what), has[piece][what]);
            }
        }
        DUE.is("the first square of all", Due.with("sight 1 when column + row = 0;").pieceHas(0, 1), 0);
        DUE.is("the last square of all", Due.with("disc 0 0;sight 1 when column = 11 and row = 7;").pieceHas(0, 1), 95);
        DUE.is("in an empty field", new BlindSide().pieceHas(0, 0), -1);
        for (int piece : new int[] {-1, 2, LEAST, MOST}) {
            DUE.leaves("pieceHas(" + piece + ", 0)", -1, y -> y.pieceHas(piece, 0));
        }
        for (int what : new int[] {-1, 3, LEAST, MOST}) {
            DUE.leaves("pieceHas(1, " + what + ")", -1, y -> y.pieceHas(1, what));
        }
    }

    private static void lights() {
        DUE.by(13, "LIGHT that it has: the greatest, over all SQUARES with SIGHT but that one itself, of floor(BRIGHT times SIGHT / (9 times (1 + columns between squared + rows between squared))); 0 without such.");
        BlindSide one = Due.with("sight 9 when column + row = 0;");
        DUE.is("of itself none", one.light(0, 0, 99), 0);
        DUE.is("side by side", one.light(1, 0, 99), 49);
        DUE.is("side by side, below 1", one.light(1, 0, 1), 0);
        DUE.is("side by side, just 1", one.light(0, 1, 2), 1);
        DUE.is("cornerwise", one.light(1, 1, 99), 33);
        DUE.is("just even", one.light(3, 0, 90), 9);
        DUE.is("one less", one.light(3, 0, 89), 8);
        DUE.is("by rows", one.light(0, 7, 99), 1);
        DUE.is("by rows, just 1", one.light(0, 7, 50), 1);
        DUE.is("by rows, below 1", one.light(0, 7, 49), 0);
        DUE.is("farthest", one.light(11, 7, 99), 0);
        BlindSide last = Due.with("disc 0 0;sight 9 when column = 11 and row = 7;");
        DUE.is("from the last square", last.light(10, 7, 99), 49);
        DUE.is("of the last square itself none", last.light(11, 7, 99), 0);
        BlindSide faint = Due.with("sight 1 when column + row = 0;");
        DUE.is("faint", faint.light(1, 0, 99), 5);
        DUE.is("faint, one column on", faint.light(2, 0, 99), 2);
        BlindSide two = Due.with("sight 2 when column = 1 and row = 0;sight 9 when column = 4 and row = 0;");
        DUE.is("the near one has more", two.light(0, 0, 90), 10);
        DUE.is("the far one has more", two.light(2, 0, 90), 18);
        DUE.is("of another with sight", two.light(1, 0, 90), 9);
        DUE.is("without any", new BlindSide().light(3, 3, 99), 0);
        DUE.is("the disc gives none", Due.with("disc 1 1;sight 9 when column = 1 and row = 1;").light(1, 0, 99), 0);
        DUE.is("onto the disc", Due.with("disc 1 1;sight 9 when column = 1;").light(1, 1, 99), 49);
    }

    private static void lightRefused() {
        DUE.by(13, "LIGHT of a SHOWING at a SQUARE; NONE when something can't be.");
        BlindSide x = Due.with("sight 9 when all;");
        DUE.is("nothing shown", x.light(0, 0, 0), 0);
        DUE.is("the least", x.light(0, 0, 1), 0);
        DUE.is("the most", x.light(11, 7, 99), 49);
        for (int column : NO_COLUMNS) {
            DUE.leaves("light(" + column + ", 0, 9)", -1, y -> y.light(column, 0, 9));
        }
        for (int row : NO_ROWS) {
            DUE.leaves("light(0, " + row + ", 9)", -1, y -> y.light(0, row, 9));
        }
        for (int bright : new int[] {-1, 100, LEAST, MOST}) {
            DUE.leaves("light(0, 0, " + bright + ")", -1, y -> y.light(0, 0, bright));
        }
    }
}
