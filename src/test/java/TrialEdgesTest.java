/** The edges of TRIALS, how they come, change and go, and of counting them: promises 19 to 25. */
public final class TrialEdgesTest {
    private static final Due DUE = new Due();
    private static final int LEAST = Integer.MIN_VALUE;
    private static final int MOST = Integer.MAX_VALUE;

    public static void main(String[] args) {
        trials();
        fortyTrials();
        trialRefused();
        runs();
        runSeeds();
        runEnds();
        runRefused();
        moves();
        moveRefused();
        voices();
        undoing();
        tried();
        rightAndGone();
        counts();
        countsAtEdges();
        DUE.end();
    }

    private static void trials() {
        DUE.by(19, "TRIALS (40 at most), numbered from 0 on: a SHOWING, the sort that was guessed, whether he said that he saw, how sure (0 .. 9).");
        BlindSide x = Due.with("thing a 2;thing b 6;");
        DUE.is("the least of all", x.trial(0, 0, 0, 0, 0, 0, false, 0), 1);
        DUE.is("the greatest of all", x.trial(1, 11, 7, 99, 5, 5, true, 9), 2);
        int[] least = {0, 0, 0, 0, 0, 0, 0, 0, 1, 0, 0, -1};
        int[] greatest = {1, 11, 7, 99, 5, 5, 1, 9, 1, 0, 0, -1};
        for (int what = 0; what < 12; what++) {
            DUE.is("number 0: " + what, x.tried(0, what), least[what]);
            DUE.is("number 1: " + what, x.tried(1, what), greatest[what]);
        }
        DUE.is("the last sorts of two", x.trial(0, 0, 0, 0, 1, 1, false, 0), 3);
        DUE.changes("trial", y -> y.trial(0, 0, 0, 0, 0, 0, false, 0), "has");
    }

    private static void fortyTrials() {
        DUE.by(19, "A TRIAL: how many there are; NONE when something can't be, or there are 40.");
        BlindSide x = Due.with("thing a 2;");
        for (int n = 1; n <= 40; n++) {
            DUE.is("trial " + n, x.trial(0, n % 12, 0, n, 0, 0, false, 0), n);
        }
        DUE.is("a 41st", x.trial(0, 5, 5, 5, 1, 1, true, 5), -1);
        DUE.is("still 40", x.has(2), 40);
        DUE.is("the last stays", x.tried(39, 3), 40);
        DUE.is("no 41st", x.tried(40, 3), -1);
        DUE.is("one goes", x.undo(), 39);
        DUE.is("a new 40th", x.trial(0, 5, 5, 5, 1, 1, true, 5), 40);
        DUE.is("a new 40th", x.tried(39, 3), 5);
        DUE.is("a 41st again", x.trial(0, 5, 5, 5, 1, 1, true, 5), -1);
    }

    private static void trialRefused() {
        DUE.by(19, "NONE when something can't be,");
        DUE.leavesShown("trial", -1, (x, law, thing, column, row, bright) -> x.trial(thing, column, row, bright, 0, 0, true, 1));
        for (int sort : new int[] {-1, 4, LEAST, MOST}) {
            DUE.leaves("trial of sort " + sort, -1, x -> x.trial(1, 0, 0, 5, sort, 0, true, 1));
            DUE.leaves("trial of guess " + sort, -1, x -> x.trial(1, 0, 0, 5, 0, sort, true, 1));
        }
        DUE.leaves("trial of a third sort of two", -1, x -> x.trial(0, 0, 0, 5, 2, 0, true, 1));
        DUE.leaves("trial of a third guess of two", -1, x -> x.trial(0, 0, 0, 5, 0, 2, true, 1));
        for (int sure : new int[] {-1, 10, LEAST, MOST}) {
            DUE.leaves("trial of sure " + sure, -1, x -> x.trial(1, 0, 0, 5, 0, 0, true, sure));
        }
        DUE.is("without things", new BlindSide().trial(0, 0, 0, 0, 0, 0, false, 0), -1);
    }

    private static long next(long x) {
        return (1103515245L * x + 12345L) & 0x7fffffffL;
    }

    private static void runs() {
        DUE.by(20, "A RUN of THE PLAN by a LAW from a seed: for each SHOWING x goes on, its sort is floor(x / 256) mod the THING's sorts; then a DRAW with x, which goes on by it; he says what he SAYS; how sure: floor(CARRIED / 11).");
        BlindSide x = Due.with("thing a 2;thing b 5;", "way k knows column * 11 - 1 when row = 0;way b blind column * 11 when row = 1;way c blind 100 when row = 2;line 54 when all;");
        Due.plan(x, "show a 0 0 9;show b 1 0 9;show a 1 1 9;show b 4 0 9;show a 5 0 9;show b 9 0 9;show a 9 1 9;show b 0 2 9;show a 9 0 0;show b 0 3 9;");
        int[] sure = {0, 0, 1, 3, 4, 8, 9, 9, 0, 0};
        int[] said = {0, 0, 0, 0, 1, 1, 0, 0, 0, 0};
        int[] carried = {0, 10, 11, 43, 54, 98, 99, 100, 0, 0};
        DUE.is("as many as showings", x.run(0, 2147483647), 10);
        long s = 2147483647L;
        for (int i = 0; i < 10; i++) {
            int sorts = i % 2 == 0 ? 2 : 5;
            s = next(s);
            int sort = (int) (s / 256 % sorts);
            s = next(s);
            int guess = sort;
            if (s / 256 % 100 >= carried[i]) {
                s = next(s);
                guess = (int) (s / 256 % sorts);
            }
            DUE.is("sort of " + i, x.tried(i, 4), sort);
            DUE.is("guess of " + i, x.tried(i, 5), guess);
            DUE.is("said of " + i, x.tried(i, 6), said[i]);
            DUE.is("sure of " + i, x.tried(i, 7), sure[i]);
            DUE.is("not moved, " + i, x.tried(i, 10), 0);
            DUE.is("no voice, " + i, x.tried(i, 11), -1);
        }
    }

    private static void runSeeds() {
        DUE.by(20, "A RUN: how many TRIALS came; NONE without THE PLAN, or when something can't be, or the seed is below 0.");
        BlindSide x = Due.with("thing a 6;", "");
        Due.plan(x, "show a 1 1 1;");
        for (int seed : new int[] {0, 1, 2147483646, 2147483647}) {
            DUE.is("seed " + seed, x.run(0, seed), 1);
            long first = next(seed);
            int i = x.has(2) - 1;
            DUE.is("sort by seed " + seed, x.tried(i, 4), first / 256 % 6);
            DUE.is("guess by seed " + seed, x.tried(i, 5), next(next(first)) / 256 % 6);
        }
        DUE.is("the same again", x.run(0, 0), 1);
        DUE.is("the same again", x.tried(4, 4), x.tried(0, 4));
        Due.plan(x, "times 9[];");
        DUE.is("no showings", x.run(0, 1), 0);
        DUE.is("no trial came", x.has(2), 5);
    }

    private static void runEnds() {
        DUE.by(20, "It ends ahead of the SHOWING with which there would be more than 40 TRIALS.");
        BlindSide x = Due.with("thing a 2;", "");
        Due.plan(x, "times 8[times 5[show a 1 1 bright;];];");
        DUE.is("just 40", x.run(0, 1), 40);
        DUE.is("the last", x.tried(39, 3), 39);
        DUE.is("no room", x.run(0, 1), 0);
        x.undo();
        DUE.is("room for one", x.run(0, 1), 1);
        DUE.is("its first", x.tried(39, 3), 0);
        BlindSide more = Due.with("thing a 2;", "");
        Due.plan(more, "times 8[times 5[show a 1 1 bright;];];show a 1 1 77;");
        DUE.is("41 showings", more.run(0, 1), 40);
        DUE.is("the 40th", more.tried(39, 3), 39);
        BlindSide behind = Due.with("thing a 2;", "");
        Due.plan(behind, "times 9[show a 1 1 bright;];");
        behind.trial(0, 0, 0, 50, 0, 0, false, 0);
        DUE.is("behind one that is there", behind.run(0, 1), 9);
        DUE.is("it stays", behind.tried(0, 3), 50);
        DUE.is("the first that came", behind.tried(1, 3), 0);
        for (int k = 0; k < 3; k++) {
            DUE.is("nine more", behind.run(0, 1), 9);
        }
        DUE.is("37 are there", behind.run(0, 1), 3);
        BlindSide many = Due.with("thing a 2;", "");
        Due.plan(many, "times 9[".repeat(6) + "show a 1 1 bright;" + "];".repeat(6));
        DUE.is("far more than 40", many.run(0, 1), 40);
    }

    private static void runRefused() {
        DUE.by(20, "NONE without THE PLAN, or when something can't be, or the seed is below 0.");
        for (int law : new int[] {-1, 3, LEAST, MOST}) {
            DUE.leaves("run by law " + law, -1, x -> x.run(law, 1));
        }
        for (int seed : new int[] {-1, LEAST}) {
            DUE.leaves("run from seed " + seed, -1, x -> x.run(0, seed));
        }
        BlindSide x = Due.with(Due.FIELD, Due.LAW);
        DUE.is("without a plan", x.run(0, 1), -1);
        Due.plan(x, "show cross 99 0 1;");
        DUE.is("with a fault alone", x.run(0, 1), -1);
        Due.plan(x, "show cross 9 0 1;");
        DUE.is("a law that is not there", x.run(1, 1), -1);
        DUE.is("nothing came", x.has(2), 0);
        DUE.is("now it runs", x.run(0, 1), 1);
        for (int i = 1; i < 40; i++) {
            x.run(0, i);
        }
        DUE.is("40, and a law that is not there", x.run(1, 1), -1);
        DUE.is("40, and a seed below 0", x.run(0, -1), -1);
        DUE.changes("run", y -> y.run(0, 1), "has");
    }

    private static void moves() {
        DUE.by(21, "The EYE had MOVED in TRIAL i: its SQUARE is so many columns and rows on: true;");
        int[][] on = {{1, 0}, {0, 1}, {-1, 0}, {0, -1}, {-5, -3}, {6, 4}, {6, -3}, {-5, 4}};
        for (int[] step : on) {
            BlindSide x = Due.with("thing a 2;");
            x.trial(0, 5, 3, 9, 0, 0, false, 0);
            DUE.is("moved", x.moved(0, step[0], step[1]), true);
            DUE.is("its column", x.tried(0, 1), 5 + step[0]);
            DUE.is("its row", x.tried(0, 2), 3 + step[1]);
            DUE.is("it has moved", x.tried(0, 10), 1);
            DUE.is("moved again", x.moved(0, -step[0], -step[1]), false);
            DUE.is("its column stays", x.tried(0, 1), 5 + step[0]);
            DUE.is("its row stays", x.tried(0, 2), 3 + step[1]);
        }
        BlindSide corner = Due.with("thing a 2;");
        corner.trial(0, 0, 0, 9, 0, 0, false, 0);
        corner.trial(0, 11, 7, 9, 0, 0, false, 0);
        DUE.is("as far as can be", corner.moved(0, 11, 7), true);
        DUE.is("as far as can be", corner.tried(0, 1), 11);
        DUE.is("as far back as can be", corner.moved(1, -11, -7), true);
        DUE.is("as far back as can be", corner.tried(1, 2), 0);
        DUE.changes("moved", x -> x.moved(0, 1, 1), "trial 0");
    }

    private static void moveRefused() {
        DUE.by(21, "false when there is none such, it was so already, both are 0, or there is no such SQUARE.");
        for (int i : new int[] {-1, 3, 40, LEAST, MOST}) {
            DUE.leaves("moved of " + i, x -> x.moved(i, 1, 0));
        }
        DUE.leaves("moved, so already", x -> x.moved(1, -1, 0));
        DUE.leaves("moved by nothing", x -> x.moved(0, 0, 0));
        DUE.leaves("moved by nothing, so already", x -> x.moved(1, 0, 0));
        // trial 0 is at column 7, row 0
        for (int columns : new int[] {-8, 5, -12, 12, LEAST, LEAST + 1, MOST, MOST - 6}) {
            DUE.leaves("moved by " + columns + " columns", x -> x.moved(0, columns, 0));
            DUE.leaves("moved by " + columns + " columns and one row", x -> x.moved(0, columns, 1));
        }
        for (int rows : new int[] {-1, 8, LEAST, LEAST + 7, MOST}) {
            DUE.leaves("moved by " + rows + " rows", x -> x.moved(0, 0, rows));
            DUE.leaves("moved by one column and " + rows + " rows", x -> x.moved(0, 1, rows));
        }
        BlindSide x = Full.made();
        DUE.is("the last column", x.moved(0, 4, 0), true);
        BlindSide y = Full.made();
        DUE.is("the first column, the last row", y.moved(0, -7, 7), true);
        DUE.is("without trials", Due.with("thing a 2;").moved(0, 1, 0), false);
    }

    private static void voices() {
        DUE.by(22, "A VOICE told a sort in TRIAL i: true; false when there is none such, or one told it already.");
        for (int sort = 0; sort < 4; sort++) {
            BlindSide x = Full.made();
            DUE.is("sort " + sort, x.voice(0, sort), true);
            DUE.is("sort " + sort, x.tried(0, 11), sort);
            DUE.is("told already", x.voice(0, sort), false);
            DUE.is("told already", x.voice(0, 3 - sort), false);
            DUE.is("it stays", x.tried(0, 11), sort);
        }
        DUE.is("the last sort of two", Full.made().voice(1, 1), true);
        DUE.leaves("voice of a third sort of two", x -> x.voice(1, 2));
        for (int sort : new int[] {-1, 4, 255, LEAST, MOST}) {
            DUE.leaves("voice of sort " + sort, x -> x.voice(0, sort));
        }
        for (int i : new int[] {-1, 3, 40, LEAST, MOST}) {
            DUE.leaves("voice in " + i, x -> x.voice(i, 0));
        }
        DUE.leaves("voice, told already", x -> x.voice(2, 0));
        DUE.leaves("voice, told already the same", x -> x.voice(2, 3));
        DUE.changes("voice", x -> x.voice(0, 0), "trial 0");
        DUE.by(22, "A VOICE may have told a sort in one: it is LED, if that was guessed.");
        BlindSide x = Due.with("thing a 3;");
        for (int told = 0; told < 3; told++) {
            x.trial(0, 0, 0, 9, 0, 1, false, 0);
            x.voice(told, told);
        }
        x.trial(0, 0, 0, 9, 0, 1, false, 0);
        DUE.is("only that which was guessed", x.count(-1, 9, false), 1);
    }

    private static void undoing() {
        DUE.by(23, "The last TRIAL goes: how many are left; NONE without.");
        BlindSide x = Full.made();
        DUE.is("of three", x.undo(), 2);
        DUE.is("the last is gone", x.tried(2, 0), -1);
        DUE.is("the one ahead stays", x.tried(1, 1), 10);
        DUE.is("of two", x.undo(), 1);
        DUE.is("of one", x.undo(), 0);
        DUE.is("of none", x.undo(), -1);
        DUE.is("of none again", x.undo(), -1);
        DUE.is("still none", x.has(2), 0);
        DUE.is("a new one", x.trial(0, 0, 0, 9, 0, 0, false, 0), 1);
        DUE.is("it has not moved", x.tried(0, 10), 0);
        DUE.is("it can move", x.moved(0, 1, 0), true);
        DUE.is("it has no voice", x.voice(0, 1), true);
        DUE.changes("undo", y -> y.undo(), "has", "trial 2");
        BlindSide again = Full.made();
        again.undo();
        again.trial(1, 0, 0, 9, 0, 0, false, 0);
        DUE.is("no voice of the one that went", again.tried(2, 11), -1);
        again.undo();
        again.undo();
        again.trial(1, 0, 0, 9, 0, 0, false, 0);
        DUE.is("not moved as the one that went", again.tried(1, 10), 0);
        BlindSide full = Due.with("thing a 2;");
        for (int i = 0; i < 40; i++) {
            full.trial(0, 0, 0, 9, 0, 0, false, 0);
        }
        DUE.is("of forty", full.undo(), 39);
    }

    private static void tried() {
        DUE.by(24, "Of TRIAL i: 0 THING, 1 column, 2 row, 3 BRIGHT, 4 sort, 5 guess, 6 said, 7 sure, 8 RIGHT, 9 LIGHT, 10 MOVED, 11 the sort told by the VOICE (NONE without). NONE when there is none such, or for others.");
        int[][] full = {{1, 7, 0, 60, 2, 2, 0, 3, 1, 12, 0, -1}, {0, 10, 2, 90, 1, 1, 0, 5, 1, 15, 1, -1}, {1, 3, 3, 99, 3, 0, 1, 9, 0, 49, 0, 3}};
        BlindSide x = Full.made();
        for (int i = 0; i < full.length; i++) {
            for (int what = 0; what < 12; what++) {
                DUE.is("tried(" + i + ", " + what + ")", x.tried(i, what), full[i][what]);
            }
        }
        for (int i : new int[] {-1, 3, 40, LEAST, MOST}) {
            DUE.leaves("tried(" + i + ", 0)", -1, y -> y.tried(i, 0));
        }
        for (int what : new int[] {-1, 12, LEAST, MOST}) {
            DUE.leaves("tried(0, " + what + ")", -1, y -> y.tried(0, what));
        }
        DUE.is("without trials", new BlindSide().tried(0, 0), -1);
    }

    private static void rightAndGone() {
        DUE.by(25, "It is RIGHT, if the sorts are alike. GONE ones: those at a SQUARE without SIGHT that is not the DISC. The EYE may have MOVED in one: its SQUARE is another one then.");
        BlindSide x = Due.with("disc 5 5;sight 1 when column = 0;thing a 3;");
        x.trial(0, 1, 0, 9, 2, 2, false, 0);
        x.trial(0, 5, 5, 9, 2, 1, false, 0);
        x.trial(0, 0, 0, 9, 0, 2, false, 0);
        DUE.is("alike", x.tried(0, 8), 1);
        DUE.is("one off", x.tried(1, 8), 0);
        DUE.is("others", x.tried(2, 8), 0);
        DUE.is("gone", x.count(-1, 3, false), 1);
        DUE.is("on the disc", x.count(-1, 4, false), 1);
        x.moved(1, -1, 0);
        DUE.is("moved off the disc: gone", x.count(-1, 3, false), 2);
        DUE.is("none on the disc", x.count(-1, 4, false), 0);
        x.moved(0, -1, 0);
        DUE.is("moved into sight: not gone", x.count(-1, 3, false), 1);
        x.moved(2, 5, 5);
        DUE.is("moved onto the disc", x.count(-1, 4, false), 1);
        DUE.is("moved onto the disc: not gone", x.count(-1, 3, false), 1);
    }

    private static void counts() {
        DUE.by(25, "How many TRIALS of a THING (NONE: of all) there are (right false), or are RIGHT: where 0 all, 1 he said that he saw, 2 he did not, 3 GONE ones, 4 on the DISC, 5 BRIGHT 0, 6 in ISLANDS, 7 how sure 5 or more, 8 MOVED, 9 LED. NONE when something can't be.");
        BlindSide x = Full.made();
        int[] all = {3, 1, 2, 1, 0, 0, 1, 2, 1, 0};
        int[] right = {2, 0, 2, 1, 0, 0, 1, 1, 1, 0};
        int[] faces = {2, 1, 1, 1, 0, 0, 0, 1, 0, 0};
        int[] rightFaces = {1, 0, 1, 1, 0, 0, 0, 0, 0, 0};
        for (int where = 0; where < 10; where++) {
            DUE.is("all, " + where, x.count(-1, where, false), all[where]);
            DUE.is("right, " + where, x.count(-1, where, true), right[where]);
            DUE.is("faces, " + where, x.count(1, where, false), faces[where]);
            DUE.is("right faces, " + where, x.count(1, where, true), rightFaces[where]);
        }
        for (int thing : new int[] {-2, 2, LEAST, MOST}) {
            DUE.leaves("count of thing " + thing, -1, y -> y.count(thing, 0, false));
        }
        for (int where : new int[] {-1, 10, LEAST, MOST}) {
            DUE.leaves("count at " + where, -1, y -> y.count(-1, where, false));
            DUE.leaves("count of right ones at " + where, -1, y -> y.count(0, where, true));
        }
        for (int where = 0; where < 10; where++) {
            DUE.is("without trials, " + where, Due.with("thing a 2;").count(0, where, false), 0);
            DUE.is("without things, " + where, new BlindSide().count(-1, where, true), 0);
            DUE.is("a thing without things, " + where, new BlindSide().count(0, where, true), -1);
        }
    }

    private static void countsAtEdges() {
        DUE.by(25, "5 BRIGHT 0, 6 in ISLANDS, 7 how sure 5 or more,");
        BlindSide x = Due.with("sight 1 when column < 2 and row = 0 or column = 5 and row = 0;thing a 2;");
        x.trial(0, 0, 0, 0, 0, 0, false, 4);
        x.trial(0, 5, 0, 1, 0, 0, false, 5);
        x.trial(0, 3, 0, 99, 0, 0, false, 9);
        DUE.is("bright 0, not 1", x.count(-1, 5, false), 1);
        DUE.is("in an island, not in the seen side", x.count(-1, 6, false), 1);
        DUE.is("sure 5, not 4", x.count(-1, 7, false), 2);
        for (int i = 3; i < 40; i++) {
            x.trial(0, 5, 0, 0, 0, 1, true, 5);
        }
        int[] all = {40, 37, 3, 1, 0, 38, 38, 39, 0, 0};
        for (int where = 0; where < all.length; where++) {
            DUE.is("of forty, " + where, x.count(0, where, false), all[where]);
        }
    }
}
