/** Promises 14 to 18: carries, says, whole, odds, draw. */
public final class LawTest {
    private static final Due DUE = new Due();

    public static void main(String[] args) {
        carried();
        limits();
        words();
        lines();
        said();
        wholes();
        wholeRefused();
        odds();
        draws();
        DUE.end();
    }

    private static void carried() {
        BlindSide x = Due.with(Due.FIELD, Due.LAW);
        DUE.is("14: a way", x.carries(0, 0, 0, 9, 2, 90), 33);
        DUE.is("14: its test does not hold", x.carries(0, 0, 1, 7, 0, 60), 0);
        DUE.is("14: a blind way", x.carries(0, 1, 1, 7, 0, 60), 30);
        DUE.is("14: by light", x.carries(0, 2, 1, 7, 0, 60), 24);
        DUE.is("14: carried is the most", x.carries(0, -1, 1, 7, 0, 60), 30);
        DUE.is("14: known", x.carries(0, -2, 1, 7, 0, 60), 0);
        DUE.is("14: known", x.carries(0, -2, 1, 9, 2, 60), 33);
        DUE.is("14: the line", x.carries(0, -3, 1, 7, 0, 60), 50);
        DUE.is("14: of nothing nothing", x.carries(0, 0, 0, 0, 0, 0), 0);
        DUE.is("14: of nothing nothing", x.carries(0, -1, 0, 0, 0, 0), 0);
        DUE.is("14: the line of nothing", x.carries(0, -3, 0, 0, 0, 0), 50);
        DUE.is("14: no such way", x.carries(0, 3, 0, 0, 0, 5), -1);
        DUE.is("14: no such way", x.carries(0, -4, 0, 0, 0, 5), -1);
        DUE.is("14: no such law", x.carries(1, -1, 0, 0, 0, 5), -1);
        DUE.is("14: no such law", x.carries(-1, -1, 0, 0, 0, 5), -1);
        DUE.is("14: no such law", x.carries(3, -1, 0, 0, 0, 5), -1);
        DUE.is("14: no such thing", x.carries(0, -1, 2, 0, 0, 5), -1);
        DUE.is("14: no such thing", x.carries(0, -1, -1, 0, 0, 5), -1);
        DUE.is("14: no such column", x.carries(0, -1, 0, 12, 0, 5), -1);
        DUE.is("14: no such row", x.carries(0, -1, 0, 0, 8, 5), -1);
        DUE.is("14: too bright", x.carries(0, -1, 0, 0, 0, 100), -1);
        DUE.is("14: below 0", x.carries(0, -1, 0, 0, 0, -1), -1);
    }

    private static void limits() {
        BlindSide x = Due.with("thing a 2;", "way a knows 101 when all; way b blind 0 - 1 when all; way c blind 100 when all;",
                "", "line 50 when all;");
        DUE.is("14: above 100", x.carries(0, 0, 0, 0, 0, 5), 100);
        DUE.is("14: below 0", x.carries(0, 1, 0, 0, 0, 5), 0);
        DUE.is("14: just 100", x.carries(0, 2, 0, 0, 0, 5), 100);
        DUE.is("14: without ways", x.carries(1, -1, 0, 0, 0, 5), 0);
        DUE.is("14: without ways", x.carries(1, -2, 0, 0, 0, 5), 0);
        DUE.is("14: without lines", x.carries(1, -3, 0, 0, 0, 5), 101);
    }

    private static void words() {
        BlindSide x = Due.with("sight 7 when column = 3 and row = 5; thing a 2; thing b 3;",
                "way a knows column when all; way b knows row when all; way c knows bright when all;"
                + "way d knows sight when all; way e knows light when all;", "way a blind kind + 1 when all;");
        int[] want = {3, 5, 42, 7, 0};
        for (int way = 0; way < 5; way++) {
            DUE.is("14: word " + way, x.carries(0, way, 1, 3, 5, 42), want[way]);
        }
        DUE.is("14: light", x.carries(0, 4, 1, 4, 5, 42), 16);
        DUE.is("14: the most of five", x.carries(0, -1, 1, 3, 5, 42), 42);
        DUE.is("14: the most of five", x.carries(0, -2, 1, 3, 5, 4), 7);
        DUE.is("14: kind", x.carries(1, 0, 1, 3, 5, 42), 2);
        DUE.is("14: kind", x.carries(1, 0, 0, 3, 5, 42), 1);
        DUE.is("14: a law by its number", x.carries(1, -2, 0, 3, 5, 42), 0);
    }

    private static void lines() {
        BlindSide x = Due.with("thing a 2;", "line 0 - 5 when column = 0; line 102 when column = 1; line 20 when column < 4;"
                + "way w knows 1 when all; line 30 when column < 5;");
        int[] want = {0, 101, 20, 20, 30, 101};
        for (int column = 0; column < want.length; column++) {
            DUE.is("14: line at " + column, x.carries(0, -3, 0, column, 0, 9), want[column]);
        }
    }

    private static void said() {
        BlindSide x = Due.with("thing a 2;", "way k knows bright when all; way b blind 99 when all; line 50 when row = 0; line 0 when row = 1;");
        DUE.is("15: below the line", x.says(0, 0, 0, 0, 49), 0);
        DUE.is("15: not below it", x.says(0, 0, 0, 0, 50), 1);
        DUE.is("15: a line of 0, of nothing", x.says(0, 0, 0, 1, 0), 1);
        DUE.is("15: without a line", x.says(0, 0, 0, 2, 99), 0);
        DUE.is("15: no such law", x.says(1, 0, 0, 0, 50), -1);
        DUE.is("15: no such thing", x.says(0, 1, 0, 0, 50), -1);
        DUE.is("15: no such column", x.says(0, 0, -1, 0, 50), -1);
        DUE.is("15: no such row", x.says(0, 0, 0, -1, 50), -1);
        DUE.is("15: too bright", x.says(0, 0, 0, 0, 100), -1);
    }

    private static void wholes() {
        BlindSide x = Due.with("sight 9 when column = 0; thing a 2;",
                "way k knows bright when sight > 0; way b blind bright / 2 when sight = 0;");
        DUE.is("16: how bright", x.whole(0, 0, 5, 0, 80, 0, 0, 0), 40);
        DUE.is("16: carried there", x.whole(0, 0, 5, 0, 80, 0, 0, 1), 40);
        DUE.is("16: known above his", x.whole(0, 0, 5, 0, 80, 0, 0, 2), 40);
        DUE.is("16: the other way round", x.whole(0, 0, 0, 0, 30, 5, 0, 0), 60);
        DUE.is("16: below 0", x.whole(0, 0, 0, 0, 30, 5, 0, 2), -30);
        DUE.is("16: the nearest", x.whole(0, 0, 0, 0, 90, 5, 0, 0), 98);
        DUE.is("16: the nearest", x.whole(0, 0, 0, 0, 90, 5, 0, 1), 49);
        DUE.is("16: the nearest, not the last looked at", Due.with("thing a 2;",
                "way j knows 40 when bright = 9; way k knows 90 when bright = 99; way l blind 50 when column = 0;")
                .whole(0, 0, 0, 0, 50, 1, 1, 1), 40);
        DUE.is("16: the nearest, not the last looked at", Due.with("thing a 2;",
                "way j knows 40 when bright = 9; way k knows 90 when bright = 99; way l blind 50 when column = 0;")
                .whole(0, 0, 0, 0, 50, 1, 1, 2), 40);
        DUE.is("16: the same square", x.whole(0, 0, 0, 3, 17, 0, 3, 0), 17);
        DUE.is("16: of nothing, the least", x.whole(0, 0, 0, 3, 0, 5, 3, 0), 1);
        DUE.is("16: of nothing", x.whole(0, 0, 0, 3, 0, 5, 3, 1), 0);
        BlindSide y = Due.with("thing a 2; thing b 2;", "way k knows 99 when bright = 3; way j knows bright * 10 when kind = 0;");
        DUE.is("16: like ones, the least", y.whole(0, 0, 0, 0, 2, 1, 1, 0), 2);
        DUE.is("16: of the same thing", y.whole(0, 1, 0, 0, 3, 1, 1, 0), 3);
        BlindSide z = Due.with("thing a 2;", "way j knows 30 when bright = 9; way k knows 10 when bright = 4; way l knows 20 when bright = 50;");
        DUE.is("16: as near below as above, the least", z.whole(0, 0, 0, 0, 50, 1, 1, 0), 50);
        DUE.is("16: as near below as above, the least", Due.with("thing a 2;",
                "way j knows 30 when bright = 9; way k knows 10 when bright = 4; way l knows 20 when row = 0;").whole(0, 0, 0, 0, 50, 1, 1, 0), 4);
        DUE.is("16: the brightest", Due.with("thing a 2;", "way j knows 30 when bright = 99;").whole(0, 0, 0, 0, 99, 1, 1, 0), 99);
    }

    private static void wholeRefused() {
        BlindSide x = Due.with("thing a 2;", "way k knows bright when all;");
        DUE.is("16: it stands", x.whole(0, 0, 0, 0, 5, 1, 1, 0), 5);
        DUE.is("16: others", x.whole(0, 0, 0, 0, 5, 1, 1, 3), -1000);
        DUE.is("16: others", x.whole(0, 0, 0, 0, 5, 1, 1, -1), -1000);
        DUE.is("16: no such law", x.whole(1, 0, 0, 0, 5, 1, 1, 0), -1000);
        DUE.is("16: no such thing", x.whole(0, 1, 0, 0, 5, 1, 1, 0), -1000);
        DUE.is("16: no such column", x.whole(0, 0, 12, 0, 5, 1, 1, 0), -1000);
        DUE.is("16: no such row", x.whole(0, 0, 0, 8, 5, 1, 1, 0), -1000);
        DUE.is("16: too bright", x.whole(0, 0, 0, 0, 100, 1, 1, 0), -1000);
        DUE.is("16: no such other column", x.whole(0, 0, 0, 0, 5, 12, 1, 0), -1000);
        DUE.is("16: no such other row", x.whole(0, 0, 0, 0, 5, 1, -1, 0), -1000);
    }

    private static void odd(BlindSide x, int thing, int bright, boolean right, int above, int below) {
        String call = "17: odds of " + thing + " at " + bright + " " + right;
        DUE.is(call, x.odds(0, thing, 0, 0, bright, right, true), above);
        DUE.is(call, x.odds(0, thing, 0, 0, bright, right, false), below);
    }

    private static void odds() {
        BlindSide x = Due.with("thing a 2; thing b 6;", "way k knows bright + 1 when all;");
        odd(x, 0, 0, true, 1, 2);
        odd(x, 0, 0, false, 1, 2);
        odd(x, 1, 0, true, 1, 6);
        odd(x, 1, 0, false, 1, 6);
        odd(x, 0, 49, true, 3, 4);
        odd(x, 0, 49, false, 1, 4);
        odd(x, 1, 9, true, 1, 4);
        odd(x, 1, 9, false, 3, 20);
        odd(x, 1, 6, true, 9, 40);
        odd(x, 0, 99, true, 1, 1);
        odd(x, 0, 99, false, 0, 1);
        odd(Due.with("thing a 2;", "way b blind 50 when all;"), 0, 9, true, 3, 4);
        DUE.is("17: no such law", x.odds(1, 0, 0, 0, 5, true, true), -1);
        DUE.is("17: no such thing", x.odds(0, 2, 0, 0, 5, true, true), -1);
        DUE.is("17: no such column", x.odds(0, 0, 12, 0, 5, true, true), -1);
        DUE.is("17: no such row", x.odds(0, 0, 0, 8, 5, true, true), -1);
        DUE.is("17: too bright", x.odds(0, 0, 0, 0, 100, true, true), -1);
    }

    /** The generator of the document, told again. */
    private static int drawn(int carried, int sort, int sorts, long seed) {
        long x = (1103515245L * seed + 12345L) & 0x7fffffffL;
        if ((x >> 8) % 100 < carried) {
            return sort;
        }
        x = (1103515245L * x + 12345L) & 0x7fffffffL;
        return (int) ((x >> 8) % sorts);
    }

    private static void draws() {
        BlindSide x = Due.with("thing a 2; thing b 5;", "way k knows bright + 1 when all;");
        DUE.is("18: seed 0, x is 12345: 48", x.draw(0, 1, 0, 0, 48, 4, 0), 4);
        DUE.is("18: seed 0, 48 is not below 48", x.draw(0, 1, 0, 0, 47, 4, 0), drawn(48, 4, 5, 0));
        int[] seeds = {0, 1, 2, 99, 12345, 2147483646, 2147483647};
        for (int seed : seeds) {
            for (int bright = 0; bright < 100; bright += 9) {
                int carried = bright == 0 ? 0 : bright + 1;
                DUE.is("18: seed " + seed + ", bright " + bright, x.draw(0, 1, 2, 3, bright, 3, seed), drawn(carried, 3, 5, seed));
            }
        }
        DUE.is("18: all is carried", x.draw(0, 1, 0, 0, 99, 2, 77), 2);
        for (int seed = 0; seed < 9; seed++) {
            DUE.is("18: by a blind way", Due.with("thing a 6;", "way b blind 100 when all;").draw(0, 0, 0, 0, 9, 3, seed), 3);
        }
        DUE.is("18: seed below 0", x.draw(0, 0, 0, 0, 5, 0, -1), -1);
        DUE.is("18: no such sort", x.draw(0, 0, 0, 0, 5, 2, 1), -1);
        DUE.is("18: no such sort", x.draw(0, 0, 0, 0, 5, -1, 1), -1);
        DUE.is("18: no such law", x.draw(2, 0, 0, 0, 5, 0, 1), -1);
        DUE.is("18: no such thing", x.draw(0, 2, 0, 0, 5, 0, 1), -1);
        DUE.is("18: no such column", x.draw(0, 0, 12, 0, 5, 0, 1), -1);
        DUE.is("18: no such row", x.draw(0, 0, 0, 8, 5, 0, 1), -1);
        DUE.is("18: too bright", x.draw(0, 0, 0, 0, 100, 0, 1), -1);
        DUE.is("18: no trial came", x.has(2), 0);
    }
}
