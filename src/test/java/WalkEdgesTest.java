import java.math.BigInteger;

/** The edges of what parts LAWS, and of the corridor: promises 39 to 43. */
public final class WalkEdgesTest {
    private static final Due DUE = new Due();
    private static final int LEAST = Integer.MIN_VALUE;
    private static final int MOST = Integer.MAX_VALUE;
    private static final int[] NO_LAWS = {-1, 3, LEAST, MOST};

    public static void main(String[] args) {
        partings();
        parted();
        nexts();
        nextLikeOnes();
        nextRefused();
        chairs();
        chairRefused();
        walks();
        walksRefused();
        odds();
        oddsRefused();
        DUE.end();
    }

    private static void partings() {
        DUE.by(39, "PARTED are two LAWS on a SHOWING by the difference of their ODDS that he is right, in millionths, rounded down.");
        BlindSide x = Due.with("thing a 2;thing b 3;thing c 6;thing d 4;", "way k knows bright when all;", "way k blind 100 when row = 1;", "");
        DUE.is("alike", x.parted(1, 2, 0, 0, 0, 9), 0);
        DUE.is("nothing shown", x.parted(0, 1, 0, 0, 1, 0), 0);
        DUE.is("by most, of two sorts", x.parted(1, 2, 0, 0, 1, 9), 500000);
        DUE.is("by most, of three sorts", x.parted(1, 2, 1, 0, 1, 9), 666666);
        DUE.is("by most, of six sorts", x.parted(1, 2, 2, 0, 1, 9), 833333);
        DUE.is("by most, of four sorts", x.parted(1, 2, 3, 0, 1, 9), 750000);
        DUE.is("by least, of two sorts", x.parted(0, 2, 0, 0, 0, 1), 5000);
        DUE.is("by least, of three sorts", x.parted(0, 2, 1, 0, 0, 1), 6666);
        DUE.is("by two of a hundred, of three sorts", x.parted(0, 2, 1, 0, 0, 2), 13333);
        DUE.is("the greater one first", x.parted(1, 0, 1, 0, 1, 99), 6666);
        DUE.is("the greater one last", x.parted(0, 1, 1, 0, 1, 99), 6666);
        DUE.is("a law and itself", x.parted(0, 0, 1, 0, 1, 99), 0);
    }

    private static void parted() {
        DUE.by(39, "PARTED; NONE when something can't be.");
        DUE.leavesAsked("parted, the first", -1, (x, law, thing, column, row, bright) -> x.parted(law, 0, thing, column, row, bright));
        DUE.leavesAsked("parted, the second", -1, (x, law, thing, column, row, bright) -> x.parted(0, law, thing, column, row, bright));
        DUE.is("the last of all", Full.made().parted(0, 2, 1, 11, 7, 99) >= 0, true);
    }

    private static void isNext(BlindSide x, int first, int second, int bright, int... want) {
        for (int what = 0; what < 4; what++) {
            DUE.is("next(" + first + ", " + second + ", " + bright + ", " + what + ")", x.next(first, second, bright, what), want[what]);
        }
    }

    private static void nexts() {
        DUE.by(40, "The NEXT: of all THINGS and SQUARES, by a BRIGHT, that by which two LAWS are PARTED most; the first of like ones (by THING, then row by row).");
        BlindSide x = Due.with("thing a 2;thing b 2;", "", "way k knows 1 when kind = 0 and column = 0 and row = 0;",
                "way k knows 1 when kind = 1 and column = 11 and row = 7;");
        isNext(x, 0, 1, 9, 0, 0, 0, 5000);
        isNext(x, 0, 2, 9, 1, 11, 7, 5000);
        isNext(x, 1, 2, 9, 0, 0, 0, 5000);
        isNext(x, 2, 1, 1, 0, 0, 0, 5000);
        isNext(x, 0, 2, 0, 0, 0, 0, 0);
        isNext(x, 0, 0, 99, 0, 0, 0, 0);
        isNext(x, 2, 0, 99, 1, 11, 7, 5000);
        Due.law(x, 1, "way k knows 2 when kind = 1 and column = 0 and row = 1;way j knows 2 when kind = 1 and column = 11 and row = 0;");
        isNext(x, 0, 1, 9, 1, 11, 0, 10000);
        Due.law(x, 1, "way k knows bright when kind = 0 and column = 11 and row = 7;way j knows 97 when kind = 1 and column = 0 and row = 0;");
        isNext(x, 0, 1, 97, 0, 11, 7, 485000);
        isNext(x, 0, 1, 96, 1, 0, 0, 485000);
        isNext(x, 0, 1, 99, 0, 11, 7, 495000);
        BlindSide five = Due.with("thing a 2;thing b 3;thing c 6;thing d 6;thing e 5;", "", "way k knows 100 when all;");
        isNext(five, 0, 1, 1, 2, 0, 0, 833333);
        Due.law(five, 1, "way k knows 100 when kind = 4 and row = 7 and column = 11;");
        isNext(five, 0, 1, 1, 4, 11, 7, 800000);
    }

    private static void nextLikeOnes() {
        DUE.by(40, "the first of like ones (by THING, then row by row).");
        BlindSide x = Due.with("thing a 3;thing b 3;", "", "way k knows 5 when kind = 1 and row = 0 or kind = 0 and row = 7;");
        isNext(x, 0, 1, 9, 0, 0, 7, 33333);
        Due.law(x, 1, "way k knows 5 when column = 0 and row = 3 or column = 9 and row = 2;");
        isNext(x, 0, 1, 9, 0, 9, 2, 33333);
        Due.law(x, 1, "way k knows 5 when column = 3 and row = 2 or column = 9 and row = 2;");
        isNext(x, 0, 1, 9, 0, 3, 2, 33333);
    }

    private static void nextRefused() {
        DUE.by(40, "The NEXT: 0 the THING, 1 the column, 2 the row, 3 by how much. NONE when something can't be, or there are no THINGS.");
        for (int law : NO_LAWS) {
            DUE.leaves("next of law " + law, -1, x -> x.next(law, 0, 9, 0));
            DUE.leaves("next of law 0 and " + law, -1, x -> x.next(0, law, 9, 3));
        }
        for (int bright : new int[] {-1, 100, LEAST, MOST}) {
            DUE.leaves("next of bright " + bright, -1, x -> x.next(0, 1, bright, 3));
        }
        for (int what : new int[] {-1, 4, LEAST, MOST}) {
            DUE.leaves("next of " + what, -1, x -> x.next(0, 1, 9, what));
        }
        BlindSide x = Due.with("", "way k knows 5 when all;", "");
        for (int what = 0; what < 4; what++) {
            DUE.is("without things, " + what, x.next(0, 1, 9, what), -1);
        }
        DUE.is("a law that is not there", x.next(0, 2, 9, 0), -1);
        Due.field(x, "thing a 2;");
        DUE.is("with one", x.next(0, 1, 9, 3), 25000);
        DUE.is("a law that is not there", x.next(2, 0, 9, 0), -1);
    }

    private static void chairs() {
        DUE.by(41, "A CHAIR on a SQUARE comes, or goes: how many CHAIRS;");
        BlindSide x = new BlindSide();
        for (int k = 0; k < 96; k++) {
            DUE.is("chair " + k, x.chair(k % 12, k / 12, true), k + 1);
        }
        DUE.is("so already", x.chair(11, 7, true), -1);
        for (int k = 0; k < 96; k++) {
            DUE.is("one goes, " + k, x.chair(k % 12, k / 12, false), 95 - k);
        }
        DUE.is("so already", x.chair(0, 0, false), -1);
        DUE.is("none is left", x.has(3), 0);
        DUE.is("walks as at first", x.walks(0), 49303);
        DUE.changes("a chair", y -> y.chair(0, 3, true), "has", "walks");
        BlindSide full = Full.made();
        Due.field(full, "");
        DUE.is("they stay by a field", full.has(3), 2);
    }

    private static void chairRefused() {
        DUE.by(41, "NONE when there is no such SQUARE, or it is so already.");
        for (boolean on : new boolean[] {true, false}) {
            for (int column : new int[] {-1, 12, LEAST, MOST}) {
                DUE.leaves("a chair at column " + column, -1, x -> x.chair(column, 0, on));
            }
            for (int row : new int[] {-1, 8, LEAST, MOST}) {
                DUE.leaves("a chair at row " + row, -1, x -> x.chair(0, row, on));
            }
        }
        DUE.leaves("a chair that is there", -1, x -> x.chair(1, 0, true));
        DUE.leaves("a chair that is not there", -1, x -> x.chair(2, 0, false));
        DUE.leaves("a chair that is not there", -1, x -> x.chair(11, 7, false));
    }

    /** How many WALKS there are from a row, told again; the CHAIRS as bits of each column's rows. */
    private static long walksAgain(int[] chairs, int from) {
        long[] ways = new long[10];
        ways[from + 1] = 1;
        for (int column = 0; column < 12; column++) {
            long[] on = new long[10];
            for (int row = 1; row <= 8; row++) {
                long came = column == 0 ? ways[row] : ways[row - 1] + ways[row] + ways[row + 1];
                on[row] = (chairs[column] >> row - 1 & 1) == 1 ? 0 : came;
            }
            ways = on;
        }
        long sum = 0;
        for (long way : ways) {
            sum += way;
        }
        return sum;
    }

    private static BigInteger oddsAgain(int[] chairs, int column, int row, BigInteger[][] known) {
        if (row < 0 || row > 7 || (chairs[column] >> row & 1) == 1) {
            return BigInteger.ZERO;
        }
        if (column == 11) {
            return BigInteger.ONE;
        }
        if (known[column][row] == null) {
            BigInteger sum = BigInteger.ZERO;
            for (int next = row - 1; next <= row + 1; next++) {
                sum = sum.add(oddsAgain(chairs, column + 1, next, known));
            }
            known[column][row] = sum.multiply(BigInteger.valueOf(row == 0 || row == 7 ? 3 : 2));
        }
        return known[column][row];
    }

    private static final int[][] ROOMS = {
        {0, 0, 0, 0, 0, 0, 0, 0, 0, 0, 0, 0},
        {0, 1, 128, 0, 0, 0, 0, 0, 0, 0, 0, 0},
        {0, 0, 24, 0, 66, 0, 24, 0, 129, 0, 0, 0},
        {8, 0, 0, 0, 0, 0, 0, 0, 0, 0, 0, 0},
        {0, 0, 0, 0, 0, 0, 0, 0, 0, 0, 0, 127},
        {0, 0, 0, 0, 0, 255, 0, 0, 0, 0, 0, 0},
        {254, 252, 248, 240, 224, 192, 128, 0, 0, 0, 0, 0},
        {255, 0, 0, 0, 0, 0, 0, 0, 0, 0, 0, 0}};

    private static BlindSide room(int[] chairs) {
        BlindSide x = new BlindSide();
        for (int k = 0; k < 96; k++) {
            if ((chairs[k % 12] >> k / 12 & 1) == 1) {
                x.chair(k % 12, k / 12, true);
            }
        }
        return x;
    }

    private static void walks() {
        DUE.by(42, "CHAIRS stand on SQUARES. A WALK goes from column 0 to column 11, each step one column on, and one row up, none, or one down, within the rows, from a row told.");
        for (int k = 0; k < ROOMS.length; k++) {
            BlindSide x = room(ROOMS[k]);
            for (int row = 0; row < 8; row++) {
                DUE.is("room " + k + ", from row " + row, x.walks(row), walksAgain(ROOMS[k], row));
            }
        }
        DUE.is("a free room, from the first row", new BlindSide().walks(0), 49303);
        DUE.is("a free room, from the last row", new BlindSide().walks(7), 49303);
        int[] wall = {0, 254, 254, 254, 254, 254, 254, 254, 254, 254, 254, 254};
        DUE.is("one walk alone", room(wall).walks(0), 1);
        DUE.is("one walk alone, from beside it", room(wall).walks(1), 1);
        DUE.is("none from farther off", room(wall).walks(2), 0);
    }

    private static void walksRefused() {
        DUE.by(42, "How many WALKS from a row there are without a CHAIR; NONE when there is no such row.");
        DUE.is("a chair in the last column", room(new int[] {0, 0, 0, 0, 0, 0, 0, 0, 0, 0, 0, 255}).walks(3), 0);
        DUE.is("a chair at its beginning", room(new int[] {16, 0, 0, 0, 0, 0, 0, 0, 0, 0, 0, 0}).walks(4), 0);
        DUE.is("a chair beside its beginning", room(new int[] {16, 0, 0, 0, 0, 0, 0, 0, 0, 0, 0, 0}).walks(3), new BlindSide().walks(3));
        for (int row : new int[] {-1, 8, LEAST, MOST}) {
            DUE.leaves("walks(" + row + ")", -1, x -> x.walks(row));
        }
    }

    private static void odds() {
        DUE.by(43, "A blind walker takes each of the rows that there are with like odds. ODDS of a WALK without a CHAIR (also at its beginning).");
        BigInteger all = BigInteger.valueOf(6).pow(11);
        for (int k = 0; k < ROOMS.length; k++) {
            BlindSide x = room(ROOMS[k]);
            BigInteger[][] known = new BigInteger[12][8];
            for (int row = 0; row < 8; row++) {
                BigInteger over = oddsAgain(ROOMS[k], 0, row, known);
                BigInteger common = over.gcd(all);
                DUE.is("room " + k + ", above, from row " + row, x.walk(row, true), over.divide(common).longValueExact());
                DUE.is("room " + k + ", below, from row " + row, x.walk(row, false), all.divide(common).longValueExact());
            }
        }
        BlindSide begin = new BlindSide();
        begin.chair(0, 7, true);
        DUE.is("a chair at its beginning: above", begin.walk(7, true), 0);
        DUE.is("a chair at its beginning: below", begin.walk(7, false), 1);
        DUE.is("from beside it", begin.walk(6, true), 1);
        BlindSide side = new BlindSide();
        side.chair(1, 7, true);
        DUE.is("one of two rows", side.walk(7, false), 2);
        DUE.is("one of three rows: above", side.walk(6, true), 2);
        DUE.is("one of three rows: below", side.walk(6, false), 3);
        DUE.is("none of them", side.walk(5, false), 1);
    }

    private static void oddsRefused() {
        DUE.by(43, "ODDS of a WALK without a CHAIR: what stands above or below, in lowest terms; NONE when there is no such row.");
        int[] middle = {0, 247, 247, 247, 247, 247, 247, 247, 247, 247, 247, 247};
        DUE.is("one walk alone: above", room(middle).walk(3, true), 1);
        DUE.is("one walk alone: below", room(middle).walk(3, false), 177147);
        int[] side = {0, 254, 254, 254, 254, 254, 254, 254, 254, 254, 254, 254};
        DUE.is("one walk alone at the side: below", room(side).walk(0, false), 2048);
        int[] slope = {0, 253, 254, 254, 254, 254, 254, 254, 254, 254, 254, 254};
        DUE.is("aside and back: below", room(slope).walk(0, false), 3072);
        DUE.is("certain: above", new BlindSide().walk(0, true), 1);
        DUE.is("certain: below", new BlindSide().walk(0, false), 1);
        for (int row : new int[] {-1, 8, LEAST, MOST}) {
            DUE.leaves("walk(" + row + ", true)", -1, x -> x.walk(row, true));
            DUE.leaves("walk(" + row + ", false)", -1, x -> x.walk(row, false));
        }
    }
}
