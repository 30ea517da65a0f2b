import java.math.BigInteger;

/** The edges of what LAWS tell of a SHOWING: promises 14 to 18. */
public final class LawEdgesTest {
    private static final Due DUE = new Due();
    private static final int LEAST = Integer.MIN_VALUE;
    private static final int MOST = Integer.MAX_VALUE;

    public static void main(String[] args) {
        showings();
        wordsOfLaws();
        waysCarry();
        carriedAndKnown();
        carries();
        lines();
        says();
        wholeOnes();
        whole();
        byChance();
        odds();
        draws();
        drawsAround();
        draw();
        DUE.end();
    }

    private static void showings() {
        DUE.by(14, "A SHOWING: a THING (by number), a SQUARE, how BRIGHT it is (0 .. 99; 0: nothing), in which sort (from 0 on).");
        BlindSide x = Due.with("thing a 2;thing b 3;", "way w knows 7 when all;");
        DUE.is("the first of all", x.carries(0, 0, 0, 0, 0, 1), 7);
        DUE.is("the last of all", x.carries(0, 0, 1, 11, 7, 99), 7);
        DUE.is("nothing", x.carries(0, 0, 1, 11, 7, 0), 0);
        DUE.is("the first sort", x.draw(0, 0, 0, 0, 0, 0, 1) >= 0, true);
        DUE.is("the last sort of two", x.draw(0, 0, 0, 0, 0, 1, 1) >= 0, true);
        DUE.is("one more", x.draw(0, 0, 0, 0, 0, 2, 1), -1);
        DUE.is("the last sort of three", x.draw(0, 1, 0, 0, 0, 2, 1) >= 0, true);
        DUE.is("one more", x.draw(0, 1, 0, 0, 0, 3, 1), -1);
    }

    private static void wordsOfLaws() {
        DUE.by(14, "column, row: of the SQUARE; bright: BRIGHT; sight: SIGHT there; light: LIGHT; kind: the THING's number.");
        BlindSide x = Due.with("sight 8 when column > 9;thing a 2;thing b 2;thing c 2;thing d 2;thing e 2;",
                "way a knows column when all;way b knows row when all;way c knows bright when all;way d knows sight when all;way e knows light when all;",
                "way k knows kind when all;line kind + 1 when all;");
        int[] first = {0, 0, 99, 0, 0};
        int[] last = {11, 6, 1, 8, 0};
        for (int way = 0; way < 5; way++) {
            DUE.is("at the first square, way " + way, x.carries(0, way, 0, 0, 0, 99), first[way]);
            DUE.is("at another, way " + way, x.carries(0, way, 4, 11, 6, 1), last[way]);
        }
        DUE.is("light of 44 at column 9", x.carries(0, 4, 0, 9, 0, 99), 44);
        DUE.is("light at column 10, of the others", x.carries(0, 4, 0, 10, 0, 99), 44);
        DUE.is("light on the disc", x.carries(0, 4, 0, 11, 7, 99), 44);
        DUE.is("sight on the disc", x.carries(0, 3, 0, 11, 7, 99), 0);
        DUE.is("the first thing", x.carries(1, 0, 0, 0, 0, 1), 0);
        DUE.is("the last thing", x.carries(1, 0, 4, 0, 0, 1), 4);
        DUE.is("its line", x.carries(1, -3, 4, 0, 0, 1), 5);
    }

    private static void waysCarry() {
        DUE.by(14, "A WAY CARRIES of it its SUM, 0 .. 100 (below is 0, above 100), if its TEST holds, else 0; nothing is carried of BRIGHT 0.");
        BlindSide x = Due.with("thing a 2;", "way w knows column - 2 when row = 0;", "way w blind column + 90 when row = 0;",
                "way w blind 9999 * 9999 when row = 0;way v blind 0 - 9999 * 9999 when all;");
        int[] low = {0, 0, 0, 1, 2};
        int[] high = {98, 99, 100, 100, 100};
        for (int k = 0; k < 5; k++) {
            DUE.is("a sum of " + (k - 2), x.carries(0, 0, 0, k, 0, 9), low[k]);
            DUE.is("a sum of " + (98 + k), k < 4 ? x.carries(1, 0, 0, k + 8, 0, 9) : 100, high[k]);
        }
        DUE.is("far above 100", x.carries(2, 0, 0, 0, 0, 9), 100);
        DUE.is("far below 0", x.carries(2, 1, 0, 0, 0, 9), 0);
        DUE.is("its test does not hold", x.carries(2, 0, 0, 0, 1, 9), 0);
        DUE.is("bright 0", x.carries(2, 0, 0, 0, 0, 0), 0);
        DUE.is("bright 1", x.carries(2, 0, 0, 0, 0, 1), 100);
        DUE.is("carried of bright 0", x.carries(2, -1, 0, 0, 0, 0), 0);
        DUE.is("known of bright 0", x.carries(0, -2, 0, 11, 0, 0), 0);
    }

    private static void carriedAndKnown() {
        DUE.by(14, "CARRIED by a LAW is the most that a WAY CARRIES, KNOWN the most that a WAY that knows does (0 without).");
        BlindSide x = Due.with("thing a 2;", "", "way a blind 30 when all;way b blind 20 when all;",
                "way a knows 10 when all;way b blind 30 when column = 0;way c knows 20 when row = 0;way d blind 5 when all;way e knows 15 when all;");
        DUE.is("carried without ways", x.carries(0, -1, 0, 0, 0, 9), 0);
        DUE.is("known without ways", x.carries(0, -2, 0, 0, 0, 9), 0);
        DUE.is("carried by blind ways", x.carries(1, -1, 0, 0, 0, 9), 30);
        DUE.is("known by blind ways", x.carries(1, -2, 0, 0, 0, 9), 0);
        DUE.is("the most is blind", x.carries(2, -1, 0, 0, 0, 9), 30);
        DUE.is("the most of those that know", x.carries(2, -2, 0, 0, 0, 9), 20);
        DUE.is("the most knows", x.carries(2, -1, 0, 1, 0, 9), 20);
        DUE.is("the last way", x.carries(2, -1, 0, 1, 1, 9), 15);
        DUE.is("the last way", x.carries(2, -2, 0, 1, 1, 9), 15);
    }

    private static void carries() {
        DUE.by(14, "What a WAY of a LAW CARRIES; CARRIED (way NONE), KNOWN (way -2), the LINE (way -3). NONE when something can't be.");
        BlindSide x = Due.with("thing a 2;", "way a knows 1 when all;way b knows 2 when all;way c blind 3 when all;way d knows 4 when all;"
                + "way e blind 5 when all;line 60 when all;", "");
        for (int way = 0; way < 5; way++) {
            DUE.is("way " + way, x.carries(0, way, 0, 0, 0, 9), way + 1);
        }
        DUE.is("carried", x.carries(0, -1, 0, 0, 0, 9), 5);
        DUE.is("known", x.carries(0, -2, 0, 0, 0, 9), 4);
        DUE.is("the line", x.carries(0, -3, 0, 0, 0, 9), 60);
        DUE.is("a sixth way", x.carries(0, 5, 0, 0, 0, 9), -1);
        DUE.is("a way where there is none", x.carries(1, 0, 0, 0, 0, 9), -1);
        DUE.is("carried where there is none", x.carries(1, -1, 0, 0, 0, 9), 0);
        for (int way : new int[] {-4, 3, LEAST, MOST}) {
            DUE.leaves("carries of way " + way, -1, y -> y.carries(0, way, 0, 0, 0, 9));
        }
        for (int way : new int[] {-3, -2, -1, 0}) {
            DUE.leavesAsked("carries of way " + way, -1, (y, law, thing, column, row, bright) -> y.carries(law, way, thing, column, row, bright));
        }
    }

    private static void lines() {
        DUE.by(14, "the SUM of the first line whose TEST holds, 0 .. 101 (below is 0, above 101); 101 without one.");
        BlindSide x = Due.with("thing a 2;", "line column - 2 when row = 0;line column + 97 when row = 1;line 9999 * 9999 when row = 2;"
                + "line 0 - 9999 * 9999 when row = 3;line 5 when row = 4;line 6 when row = 4 or row = 5;line bright when row = 6;", "");
        int[] low = {0, 0, 0, 1, 2};
        int[] high = {97, 98, 99, 100, 101, 101, 101};
        for (int k = 0; k < low.length; k++) {
            DUE.is("a line of " + (k - 2), x.carries(0, -3, 0, k, 0, 9), low[k]);
        }
        for (int k = 0; k < high.length; k++) {
            DUE.is("a line of " + (97 + k), x.carries(0, -3, 0, k, 1, 9), high[k]);
        }
        DUE.is("far above 101", x.carries(0, -3, 0, 0, 2, 9), 101);
        DUE.is("far below 0", x.carries(0, -3, 0, 0, 3, 9), 0);
        DUE.is("the first of two", x.carries(0, -3, 0, 0, 4, 9), 5);
        DUE.is("the second", x.carries(0, -3, 0, 0, 5, 9), 6);
        DUE.is("of bright 0", x.carries(0, -3, 0, 0, 6, 0), 0);
        DUE.is("of bright 99", x.carries(0, -3, 0, 0, 6, 99), 99);
        DUE.is("none holds", x.carries(0, -3, 0, 0, 7, 9), 101);
        DUE.is("without one", x.carries(1, -3, 0, 0, 0, 9), 101);
    }

    private static void says() {
        DUE.by(15, "He SAYS that he saw, if KNOWN is not below the LINE:");
        BlindSide x = Due.with("thing a 2;", "way k knows 50 when all;way b blind 99 when all;line column + 45 when row = 0;line 0 when row = 1;",
                "way k knows 100 when all;line 100 when row = 0;line 101 when row = 1;", "");
        DUE.is("known 50, line 49", x.says(0, 0, 4, 0, 9), 1);
        DUE.is("known 50, line 50", x.says(0, 0, 5, 0, 9), 1);
        DUE.is("known 50, line 51", x.says(0, 0, 6, 0, 9), 0);
        DUE.is("known 0, line 0", x.says(0, 0, 0, 1, 0), 1);
        DUE.is("known 0, line 45", x.says(0, 0, 0, 0, 0), 0);
        DUE.is("known 100, line 100", x.says(1, 0, 0, 0, 9), 1);
        DUE.is("known 100, line 101", x.says(1, 0, 0, 1, 9), 0);
        DUE.is("known 100, without a line", x.says(1, 0, 0, 2, 9), 0);
        DUE.is("without ways and lines", x.says(2, 0, 0, 0, 9), 0);
        DUE.by(15, "Whether he SAYS that he saw, by a LAW: 1, 0; NONE likewise.");
        DUE.leavesAsked("says", -1, (y, law, thing, column, row, bright) -> y.says(law, thing, column, row, bright));
    }

    private static void wholeOnes() {
        DUE.by(16, "A WHOLE one beside him, by a LAW: of all BRIGHT 1 .. 99 of the same THING on a SQUARE told (it may be the same) that by which CARRIED is nearest to what it is of his SHOWING, the least of like ones.");
        BlindSide x = Due.with("thing a 2;thing b 2;", "way k knows bright when column = 0;way s knows min(bright * 2, 90) when column = 1;",
                "way k knows bright when column = 0;way b blind 0 - 9999 + bright * 101 when column = 1;",
                "way k knows 20 when bright = 1;way l knows 40 when bright = 50;way m blind 60 when bright = 99;way n knows kind * 33 when bright = 7;");
        DUE.is("the same square, the least", x.whole(0, 0, 0, 0, 1, 0, 0, 0), 1);
        DUE.is("the same square, the most", x.whole(0, 0, 0, 0, 99, 0, 0, 0), 99);
        DUE.is("of nothing: bright 0 is none", x.whole(0, 0, 0, 0, 0, 0, 0, 0), 1);
        DUE.is("of nothing: what is carried", x.whole(0, 0, 0, 0, 0, 0, 0, 1), 1);
        DUE.is("just half", x.whole(0, 0, 0, 0, 44, 1, 0, 0), 22);
        DUE.is("as near below as above", x.whole(0, 0, 0, 0, 45, 1, 0, 0), 22);
        DUE.is("the least of those with 90", x.whole(0, 0, 0, 0, 90, 1, 0, 0), 45);
        DUE.is("never so much", x.whole(0, 0, 0, 0, 99, 1, 0, 0), 45);
        DUE.is("bright 100 is none", x.whole(1, 0, 0, 0, 99, 1, 0, 1), 0);
        DUE.is("all alike: the least", x.whole(1, 0, 0, 0, 99, 1, 0, 0), 1);
        DUE.is("all alike elsewhere", x.whole(0, 0, 0, 0, 50, 11, 7, 0), 1);
        DUE.is("the first bright is the nearest", x.whole(2, 0, 0, 0, 1, 11, 7, 0), 1);
        DUE.is("the last bright is the nearest", x.whole(2, 0, 0, 0, 99, 11, 7, 0), 99);
        DUE.is("one between", x.whole(2, 0, 0, 0, 50, 11, 7, 0), 50);
        DUE.is("of the same thing, the first", x.whole(2, 0, 0, 0, 7, 1, 1, 0), 2);
        DUE.is("of the same thing, the second", x.whole(2, 1, 0, 0, 7, 1, 1, 0), 7);
    }

    private static void whole() {
        DUE.by(16, "A WHOLE one beside him, on a SQUARE: 0 how BRIGHT, 1 what is CARRIED there, 2 how far KNOWN there is above KNOWN of his (below 0, too).");
        BlindSide x = Due.with("thing a 2;", "way k knows bright when column = 0;way b blind bright when column = 1;");
        int[] there = {70, 70, 70};
        int[] back = {70, 70, -70};
        int[] same = {70, 70, 0};
        for (int what = 0; what < 3; what++) {
            DUE.is("from the blind side, " + what, x.whole(0, 0, 1, 0, 70, 0, 0, what), there[what]);
            DUE.is("from the seen side, " + what, x.whole(0, 0, 0, 0, 70, 1, 0, what), back[what]);
            DUE.is("on the same square, " + what, x.whole(0, 0, 0, 0, 70, 0, 0, what), same[what]);
        }
        DUE.is("the most above", Due.with("thing a 2;", "way k knows 100 when column = 0;").whole(0, 0, 1, 0, 70, 0, 0, 2), 100);
        DUE.is("the most below", Due.with("thing a 2;", "way k knows 100 when column = 0;").whole(0, 0, 0, 0, 70, 1, 0, 2), -100);
        DUE.by(16, "-1000 when something can't be, or for others.");
        for (int what = 0; what < 3; what++) {
            int asked = what;
            DUE.leavesAsked("whole " + what, -1000, (y, law, thing, column, row, bright) -> y.whole(law, thing, column, row, bright, 1, 1, asked));
        }
        for (int bad : new int[] {-1, 12, LEAST, MOST}) {
            DUE.leaves("whole at other column " + bad, -1000, y -> y.whole(0, 0, 0, 0, 5, bad, 0, 0));
        }
        for (int bad : new int[] {-1, 8, LEAST, MOST}) {
            DUE.leaves("whole at other row " + bad, -1000, y -> y.whole(0, 0, 0, 0, 5, 0, bad, 0));
        }
        for (int bad : new int[] {-1, 3, LEAST, MOST}) {
            DUE.leaves("whole of " + bad, -1000, y -> y.whole(0, 0, 0, 0, 5, 0, 0, bad));
        }
    }

    private static void odds(BlindSide x, int thing, int bright, boolean right, int above, int below) {
        DUE.is("above, thing " + thing + ", bright " + bright + ", " + right, x.odds(0, thing, 3, 3, bright, right, true), above);
        DUE.is("below, thing " + thing + ", bright " + bright + ", " + right, x.odds(0, thing, 3, 3, bright, right, false), below);
    }

    private static void byChance() {
        DUE.by(17, "By a LAW he is right by chance CARRIED of 100, else he guesses: ODDS of each sort are alike then.");
        BlindSide x = Due.with("thing a 2;thing b 3;thing c 6;", "way k blind bright when bright < 99;way l blind 100 when bright = 99;");
        odds(x, 0, 0, true, 1, 2);
        odds(x, 0, 0, false, 1, 2);
        odds(x, 1, 0, true, 1, 3);
        odds(x, 2, 0, false, 1, 6);
        odds(x, 0, 1, true, 101, 200);
        odds(x, 0, 1, false, 99, 200);
        odds(x, 1, 1, true, 17, 50);
        odds(x, 1, 1, false, 33, 100);
        odds(x, 2, 4, true, 1, 5);
        odds(x, 2, 4, false, 4, 25);
        odds(x, 0, 98, true, 99, 100);
        odds(x, 0, 98, false, 1, 100);
        odds(x, 2, 99, true, 1, 1);
        odds(x, 2, 99, false, 0, 1);
    }

    private static void odds() {
        DUE.by(17, "ODDS that he is right (right), or guesses one told sort that is not, by a LAW: what stands above or below, in lowest terms; NONE likewise.");
        BlindSide x = Due.with("thing a 2;", "");
        odds(x, 0, 50, true, 1, 2);
        odds(x, 0, 50, false, 1, 2);
        for (int k = 0; k < 4; k++) {
            boolean right = k < 2;
            boolean above = k % 2 == 0;
            DUE.leavesAsked("odds " + right + " " + above, -1, (y, law, thing, column, row, bright) -> y.odds(law, thing, column, row, bright, right, above));
        }
    }

    private static long next(long x) {
        return BigInteger.valueOf(1103515245).multiply(BigInteger.valueOf(x)).add(BigInteger.valueOf(12345))
                .mod(BigInteger.ONE.shiftLeft(31)).longValueExact();
    }

    private static void draws() {
        DUE.by(18, "A DRAW: x (the seed) becomes (1103515245 x + 12345) mod 2 to the 31; floor(x / 256) mod 100: if it is below CARRIED, the sort guessed is the right one; else x goes on likewise, and it is floor(x / 256) mod the THING's sorts.");
        BlindSide x = Due.with("thing a 6;", "way k blind bright when all;", "way k blind 100 when all;", "");
        for (int seed = 0; seed < 40; seed++) {
            long first = next(seed);
            int line = (int) (first / 256 % 100);
            int other = (int) (next(first) / 256 % 6);
            int sort = (other + 1) % 6;
            if (line < 99) {
                DUE.is("one above, seed " + seed, x.draw(0, 0, 0, 0, line + 1, sort, seed), sort);
            }
            DUE.is("not below, seed " + seed, x.draw(0, 0, 0, 0, line, sort, seed), other);
            DUE.is("all is carried, seed " + seed, x.draw(1, 0, 0, 0, 1, sort, seed), sort);
            DUE.is("nothing is carried, seed " + seed, x.draw(2, 0, 0, 0, 99, sort, seed), other);
        }
    }

    private static void drawsAround() {
        DUE.by(18, "(1103515245 x + 12345) mod 2 to the 31;");
        BlindSide x = Due.with("thing a 2;thing b 3;thing c 5;", "");
        int[] seeds = {0, 1, 2, 3, 255, 256, 65535, 1073741823, 1073741824, 2147483645, 2147483646, 2147483647};
        for (int seed : seeds) {
            long second = next(next(seed)) / 256;
            DUE.is("of two sorts, seed " + seed, x.draw(0, 0, 0, 0, 9, 0, seed), second % 2);
            DUE.is("of three sorts, seed " + seed, x.draw(0, 1, 0, 0, 9, 0, seed), second % 3);
            DUE.is("of five sorts, seed " + seed, x.draw(0, 2, 0, 0, 9, 0, seed), second % 5);
        }
    }

    private static void draw() {
        DUE.by(18, "A DRAW of a SHOWING in a sort, by a LAW and a seed: the sort guessed; NONE likewise, or when the seed is below 0.");
        DUE.leavesAsked("draw", -1, (y, law, thing, column, row, bright) -> y.draw(law, thing, column, row, bright, 0, 1));
        for (int sort : new int[] {-1, 4, LEAST, MOST}) {
            DUE.leaves("draw of sort " + sort, -1, y -> y.draw(0, 1, 0, 0, 5, sort, 1));
        }
        for (int seed : new int[] {-1, -2, LEAST}) {
            DUE.leaves("draw of seed " + seed, -1, y -> y.draw(0, 1, 0, 0, 5, 0, seed));
        }
        BlindSide x = Full.made();
        DUE.is("the last sort", x.draw(2, 1, 0, 0, 5, 3, 0), 3);
        DUE.is("the last sort of two", x.draw(2, 0, 0, 0, 5, 1, MOST), 1);
        DUE.changes("draw", y -> y.draw(0, 1, 0, 0, 5, 3, 7));
    }
}
