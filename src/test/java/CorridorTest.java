/** Promises 41 to 43: chair, walks, walk. */
public final class CorridorTest {
    private static final Due DUE = new Due();

    public static void main(String[] args) {
        chairs();
        walks();
        odds();
        DUE.end();
    }

    private static void chairs() {
        BlindSide x = new BlindSide();
        DUE.is("41: none to go", x.chair(3, 4, false), -1);
        DUE.is("41: one comes", x.chair(3, 4, true), 1);
        DUE.is("41: so already", x.chair(3, 4, true), -1);
        DUE.is("41: another", x.chair(11, 7, true), 2);
        DUE.is("41: one goes", x.chair(3, 4, false), 1);
        DUE.is("41: so already", x.chair(3, 4, false), -1);
        DUE.is("41: no such column", x.chair(12, 0, true), -1);
        DUE.is("41: no such column", x.chair(-1, 0, true), -1);
        DUE.is("41: no such row", x.chair(0, 8, true), -1);
        DUE.is("41: no such row", x.chair(0, -1, true), -1);
        DUE.is("41: one is left", x.has(3), 1);
    }

    /** A corridor in which the rows of each column from 1 on stand free, as bits. */
    private static BlindSide free(int... columns) {
        BlindSide x = new BlindSide();
        for (int k = 0; k < columns.length; k++) {
            for (int row = 0; row < 8; row++) {
                if ((columns[k] >> row & 1) == 0) {
                    x.chair(k + 1, row, true);
                }
            }
        }
        return x;
    }

    private static void walks() {
        BlindSide x = new BlindSide();
        DUE.is("42: free, at the side", x.walks(0), 49303);
        DUE.is("42: free, at the side", x.walks(7), 49303);
        DUE.is("42: no such row", x.walks(8), -1);
        DUE.is("42: no such row", x.walks(-1), -1);
        DUE.is("42: one way alone", free(1, 1, 1, 1, 1, 1, 1, 1, 1, 1, 1).walks(0), 1);
        DUE.is("42: from the row beside it", free(1, 1, 1, 1, 1, 1, 1, 1, 1, 1, 1).walks(1), 1);
        DUE.is("42: too far", free(1, 1, 1, 1, 1, 1, 1, 1, 1, 1, 1).walks(2), 0);
        DUE.is("42: two rows", free(3, 3, 3, 3, 3, 3, 3, 3, 3, 3, 3).walks(0), 2048);
        DUE.is("42: three at last", free(1, 1, 1, 1, 1, 1, 1, 1, 1, 3, 7).walks(0), 2 + 3);
        BlindSide begin = new BlindSide();
        begin.chair(0, 3, true);
        DUE.is("42: a chair at its beginning", begin.walks(3), 0);
        BlindSide end = new BlindSide();
        for (int row = 0; row < 8; row++) {
            end.chair(11, row, true);
        }
        DUE.is("42: chairs at the end", end.walks(4), 0);
        end.chair(11, 7, false);
        DUE.is("42: one gone", end.walks(7) > 0, true);
    }

    private static void odd(BlindSide x, int row, long above, long below) {
        DUE.is("43: above, from " + row, x.walk(row, true), above);
        DUE.is("43: below, from " + row, x.walk(row, false), below);
    }

    private static void odds() {
        BlindSide x = new BlindSide();
        odd(x, 0, 1, 1);
        odd(x, 5, 1, 1);
        odd(x, 8, -1, -1);
        odd(x, -1, -1, -1);
        x.chair(1, 0, true);
        odd(x, 0, 1, 2);
        odd(x, 1, 2, 3);
        odd(x, 2, 1, 1);
        x.chair(1, 1, true);
        odd(x, 0, 0, 1);
        odd(x, 1, 1, 3);
        x.chair(1, 7, true);
        odd(x, 7, 1, 2);
        odd(x, 6, 2, 3);
        x.chair(0, 4, true);
        odd(x, 4, 0, 1);
        odd(free(1, 1, 1, 1, 1, 1, 1, 1, 1, 1, 1), 0, 1, 2048);
        odd(free(4, 4, 4, 4, 4, 4, 4, 4, 4, 4, 4), 2, 1, 177147);
        odd(free(4, 2, 1), 3, 1, 27);
        odd(free(1, 3), 0, 1, 2);
        // half goes straight and half of that on; half goes up, and a third of that comes back
        odd(free(3, 1), 0, 5, 12);
    }
}
