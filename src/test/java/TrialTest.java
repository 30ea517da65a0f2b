/** Promises 19 to 30: trials and how they come about, counts, chances, kinds. */
public final class TrialTest {
    private static final Due DUE = new Due();
    private static final long ALL = 1000000000000L;

    public static void main(String[] args) {
        trials();
        runs();
        runOrder();
        runFills();
        moves();
        voices();
        undoing();
        counts();
        chances();
        honestChances();
        needs();
        kinds();
        DUE.end();
    }

    private static void tried(BlindSide x, int i, int... want) {
        for (int what = 0; what < want.length; what++) {
            DUE.is("24: tried(" + i + ", " + what + ")", x.tried(i, what), want[what]);
        }
    }

    private static void trials() {
        BlindSide x = Due.with(Due.FIELD);
        DUE.is("19: first", x.trial(1, 7, 0, 60, 2, 2, false, 3), 1);
        DUE.is("19: second", x.trial(0, 11, 7, 99, 1, 0, true, 9), 2);
        tried(x, 0, 1, 7, 0, 60, 2, 2, 0, 3, 1, 12, 0, -1);
        tried(x, 1, 0, 11, 7, 99, 1, 0, 1, 9, 0, 2, 0, -1);
        DUE.is("24: others", x.tried(0, 12), -1);
        DUE.is("24: others", x.tried(0, -1), -1);
        DUE.is("24: none such", x.tried(2, 0), -1);
        DUE.is("24: none such", x.tried(-1, 0), -1);
        DUE.is("19: no such thing", x.trial(2, 0, 0, 5, 0, 0, true, 1), -1);
        DUE.is("19: no such thing", x.trial(-1, 0, 0, 5, 0, 0, true, 1), -1);
        DUE.is("19: no such column", x.trial(0, 12, 0, 5, 0, 0, true, 1), -1);
        DUE.is("19: no such row", x.trial(0, 0, 8, 5, 0, 0, true, 1), -1);
        DUE.is("19: too bright", x.trial(0, 0, 0, 100, 0, 0, true, 1), -1);
        DUE.is("19: no such sort", x.trial(0, 0, 0, 5, 2, 0, true, 1), -1);
        DUE.is("19: no such sort", x.trial(0, 0, 0, 5, -1, 0, true, 1), -1);
        DUE.is("19: no such guess", x.trial(0, 0, 0, 5, 0, 2, true, 1), -1);
        DUE.is("19: no such guess", x.trial(0, 0, 0, 5, 0, -1, true, 1), -1);
        DUE.is("19: too sure", x.trial(0, 0, 0, 5, 0, 0, true, 10), -1);
        DUE.is("19: below 0", x.trial(0, 0, 0, 5, 0, 0, true, -1), -1);
        for (int n = 3; n <= 40; n++) {
            DUE.is("19: number " + n, x.trial(1, 0, 0, 0, 3, 0, false, 0), n);
        }
        DUE.is("19: there are 40", x.trial(0, 0, 0, 5, 0, 0, true, 1), -1);
        DUE.is("19: there are 40", x.has(2), 40);
    }

    /** The RUN of the document, told again for SHOWINGS that are listed. */
    private static void expectRun(BlindSide x, int law, long seed, int from, int[][] showings) {
        long s = seed;
        for (int k = 0; k < showings.length; k++) {
            int[] shown = showings[k];
            int sorts = shown[0] == 0 ? 2 : 4;
            s = (1103515245L * s + 12345L) & 0x7fffffffL;
            int sort = (int) ((s >> 8) % sorts);
            int carried = x.carries(law, -1, shown[0], shown[1], shown[2], shown[3]);
            s = (1103515245L * s + 12345L) & 0x7fffffffL;
            int guess = sort;
            if ((s >> 8) % 100 >= carried) {
                s = (1103515245L * s + 12345L) & 0x7fffffffL;
                guess = (int) ((s >> 8) % sorts);
            }
            tried(x, from + k, shown[0], shown[1], shown[2], shown[3], sort, guess,
                    x.says(law, shown[0], shown[1], shown[2], shown[3]), carried / 11, sort == guess ? 1 : 0);
        }
    }

    private static void runs() {
        BlindSide x = Due.with(Due.FIELD, Due.LAW, Due.SURE);
        DUE.is("20: without a plan", x.run(0, 1), -1);
        Due.plan(x, "show cross 0 0 99; times 2 [show face 7 0 60; times 3 [show cross 8 4 bright * 30;];];");
        DUE.is("20: seed below 0", x.run(0, -1), -1);
        DUE.is("20: no such law", x.run(2, 1), -1);
        DUE.is("20: no such law", x.run(-1, 1), -1);
        DUE.is("20: nothing came", x.has(2), 0);
        int[][] showings = {{0, 0, 0, 99}, {1, 7, 0, 60}, {0, 8, 4, 60}, {0, 8, 4, 90}, {0, 8, 4, 99},
            {1, 7, 0, 60}, {0, 8, 4, 99}, {0, 8, 4, 99}, {0, 8, 4, 99}};
        DUE.is("20: as many as showings", x.run(0, 5), 9);
        expectRun(x, 0, 5, 0, showings);
        DUE.is("20: behind those that are there", x.run(1, 2147483647), 9);
        DUE.is("20: behind those that are there", x.has(2), 18);
        expectRun(x, 1, 2147483647L, 9, showings);
        DUE.is("20: seed 0", x.run(0, 0), 9);
        expectRun(x, 0, 0, 18, showings);
        DUE.is("20: all is carried, how sure", x.tried(9, 7), 9);
    }

    private static void runOrder() {
        BlindSide x = Due.with(Due.FIELD, Due.LAW);
        Due.plan(x, "times 9[times 9[times 9[times 9[times 9[times 9[];];];];];];"
                + "show face 3 2 sight * 10 + kind; times 2 [times 2 [show face 1 1 bright; show cross 11 6 column + row;];"
                + "show cross 2 2 0 - 5;]; show cross 2 2 light + 100; times 3[];");
        DUE.is("20: empty brackets give nothing", x.has(9), 12);
        DUE.is("20: in their order", x.run(0, 3), 12);
        int[][] showings = {{1, 3, 2, 91}, {1, 1, 1, 1}, {0, 11, 6, 17}, {1, 1, 1, 3}, {0, 11, 6, 17}, {0, 2, 2, 0},
            {1, 1, 1, 6}, {0, 11, 6, 17}, {1, 1, 1, 8}, {0, 11, 6, 17}, {0, 2, 2, 0}, {0, 2, 2, 99}};
        expectRun(x, 0, 3, 0, showings);
        Due.plan(x, "show face 8 0 light + 7;");
        x.run(0, 3);
        DUE.is("20: light is 0 in a plan", x.tried(12, 3), 7);
    }

    private static void runFills() {
        BlindSide x = Due.with(Due.FIELD, Due.LAW);
        Due.plan(x, "times 9[times 9[show face 1 1 bright;];];");
        DUE.is("20: up to 40", x.run(0, 9), 40);
        DUE.is("20: the last", x.tried(39, 3), 39);
        DUE.is("20: no room", x.run(0, 9), 0);
        x.undo();
        x.undo();
        DUE.is("20: room for two", x.run(0, 9), 2);
        DUE.is("20: a run begins anew", x.tried(38, 3), 0);
        DUE.is("20: a run begins anew", x.tried(39, 3), 1);
    }

    private static void moves() {
        BlindSide x = Due.with(Due.FIELD, Due.LAW);
        x.trial(0, 9, 2, 90, 0, 0, false, 1);
        x.trial(0, 0, 0, 90, 0, 0, false, 1);
        DUE.is("21: none such", x.moved(2, 1, 0), false);
        DUE.is("21: none such", x.moved(-1, 1, 0), false);
        DUE.is("21: both are 0", x.moved(0, 0, 0), false);
        DUE.is("21: no such column", x.moved(0, 3, 0), false);
        DUE.is("21: no such column", x.moved(1, -1, 0), false);
        DUE.is("21: no such row", x.moved(0, 0, 6), false);
        DUE.is("21: no such row", x.moved(0, 0, -3), false);
        DUE.is("21: far too far", x.moved(0, Integer.MAX_VALUE, 0), false);
        DUE.is("21: far too far", x.moved(0, Integer.MIN_VALUE, Integer.MIN_VALUE), false);
        tried(x, 0, 0, 9, 2, 90, 0, 0, 0, 1, 1, 10, 0, -1);
        DUE.is("21: moved", x.moved(0, 2, -2), true);
        tried(x, 0, 0, 11, 0, 90, 0, 0, 0, 1, 1, 3, 1, -1);
        DUE.is("21: already", x.moved(0, -1, 0), false);
        DUE.is("21: from corner to corner", x.moved(1, 11, 7), true);
        tried(x, 1, 0, 11, 7, 90, 0, 0, 0, 1, 1, 2, 1, -1);
        x.undo();
        x.trial(0, 0, 0, 90, 0, 0, false, 1);
        DUE.is("21: a new one has not moved", x.tried(1, 10), 0);
    }

    private static void voices() {
        BlindSide x = Due.with(Due.FIELD);
        x.trial(1, 0, 0, 9, 0, 0, false, 1);
        x.trial(0, 0, 0, 9, 0, 0, false, 1);
        DUE.is("22: none such", x.voice(2, 0), false);
        DUE.is("22: none such", x.voice(-1, 0), false);
        DUE.is("22: no such sort", x.voice(0, 4), false);
        DUE.is("22: no such sort", x.voice(1, 2), false);
        DUE.is("22: no such sort", x.voice(0, -1), false);
        DUE.is("22: none yet", x.tried(0, 11), -1);
        DUE.is("22: told", x.voice(0, 3), true);
        DUE.is("22: told", x.tried(0, 11), 3);
        DUE.is("22: already", x.voice(0, 3), false);
        DUE.is("22: already", x.voice(0, 0), false);
        DUE.is("22: already", x.tried(0, 11), 3);
        x.undo();
        x.undo();
        x.trial(1, 0, 0, 9, 0, 0, false, 1);
        DUE.is("22: a new one has none", x.tried(0, 11), -1);
    }

    private static void undoing() {
        BlindSide x = Due.with(Due.FIELD);
        DUE.is("23: without", x.undo(), -1);
        x.trial(0, 1, 0, 9, 0, 0, false, 1);
        x.trial(0, 2, 0, 9, 0, 0, false, 1);
        DUE.is("23: the last", x.undo(), 1);
        DUE.is("23: the first stays", x.tried(0, 1), 1);
        DUE.is("23: it is gone", x.tried(1, 1), -1);
        DUE.is("23: none left", x.undo(), 0);
        DUE.is("23: without", x.undo(), -1);
    }

    private static BlindSide sample() {
        BlindSide x = Due.with(Due.FIELD, Due.LAW, "way k knows 40 when all; line 41 when all;", "");
        x.trial(1, 7, 0, 60, 2, 2, false, 3);
        x.trial(0, 9, 2, 90, 1, 1, false, 5);
        x.trial(0, 0, 0, 99, 0, 0, true, 9);
        x.trial(0, 8, 4, 90, 1, 0, false, 4);
        x.trial(1, 7, 0, 0, 3, 1, false, 0);
        x.trial(1, 3, 3, 50, 3, 3, false, 6);
        x.trial(0, 8, 4, 90, 1, 1, false, 1);
        x.trial(1, 11, 7, 90, 3, 3, false, 1);
        x.trial(1, 4, 0, 0, 2, 2, false, 1);
        x.trial(0, 2, 2, 50, 1, 1, true, 1);
        x.moved(9, 1, 1);
        x.trial(1, 2, 2, 50, 3, 3, true, 1);
        x.voice(10, 3);
        x.trial(1, 2, 2, 50, 3, 3, true, 1);
        x.voice(11, 2);
        x.trial(1, 2, 2, 50, 3, 2, true, 1);
        x.voice(12, 2);
        return x;
    }

    private static void counts() {
        BlindSide x = sample();
        int[] all = {13, 5, 8, 3, 2, 2, 1, 3, 1, 2};
        int[] right = {10, 4, 6, 2, 1, 1, 1, 3, 1, 1};
        int[] faces = {8, 3, 5, 3, 0, 2, 0, 1, 0, 2};
        int[] rightCrosses = {4, 2, 2, 0, 1, 0, 1, 2, 1, 0};
        for (int where = 0; where < 10; where++) {
            DUE.is("25: all at " + where, x.count(-1, where, false), all[where]);
            DUE.is("25: right ones at " + where, x.count(-1, where, true), right[where]);
            DUE.is("25: faces at " + where, x.count(1, where, false), faces[where]);
            DUE.is("25: right crosses at " + where, x.count(0, where, true), rightCrosses[where]);
        }
        DUE.is("25: no such thing", x.count(2, 0, false), -1);
        DUE.is("25: no such thing", x.count(-2, 0, false), -1);
        DUE.is("25: no such place", x.count(-1, 10, false), -1);
        DUE.is("25: no such place", x.count(-1, -1, true), -1);
        x.moved(0, 1, 4);
        DUE.is("25: by where it is now", x.count(-1, 4, false), 3);
    }

    private static void chances() {
        BlindSide x = Due.with("thing a 2; thing b 3; thing c 6;");
        DUE.is("26: without trials", x.chance(-1), ALL);
        DUE.is("26: without trials", x.chance(2), ALL);
        x.trial(0, 0, 0, 9, 1, 1, false, 0);
        DUE.is("26: one of two", x.chance(0), ALL / 2);
        x.trial(0, 0, 0, 9, 1, 0, false, 0);
        DUE.is("26: one or more of two", x.chance(0), 3 * ALL / 4);
        x.trial(0, 0, 0, 9, 1, 1, false, 0);
        DUE.is("26: two or more of three", x.chance(0), ALL / 2);
        x.trial(1, 0, 0, 9, 2, 2, false, 0);
        DUE.is("26: rounded down", x.chance(1), 333333333333L);
        x.trial(1, 0, 0, 9, 2, 2, false, 0);
        DUE.is("26: rounded down twice", x.chance(1), 111111111111L);
        // q: 444444444444, 444444444444, 111111111111 from 666666666666 and 333333333333
        x.undo();
        x.trial(1, 0, 0, 9, 2, 1, false, 0);
        DUE.is("26: a sum of what was rounded", x.chance(1), 555555555555L);
        x.undo();
        x.undo();
        x.trial(1, 0, 0, 9, 2, 1, false, 0);
        DUE.is("26: none right, rounded", x.chance(1), 999999999999L);
        DUE.is("26: other things have none", x.chance(2), ALL);
        // 125, 375, 375, 125 of a thousand; then a third of each goes on
        DUE.is("26: of all", x.chance(-1), 375000000000L + 208333333333L + 41666666666L);
        BlindSide many = Due.with("thing a 6;");
        for (int i = 0; i < 40; i++) {
            many.trial(0, 0, 0, 9, 1, i == 0 ? 0 : 1, false, 0);
        }
        DUE.is("26: far beyond chance", many.chance(0), 0);
        for (int i = 0; i < 40; i++) {
            many.undo();
        }
        long[] q = new long[41];
        q[0] = ALL;
        for (int i = 0; i < 40; i++) {
            many.trial(0, 0, 0, 9, 1, i % 4 == 0 ? 1 : 0, false, 0);
            for (int j = 40; j >= 0; j--) {
                q[j] = (5 * q[j] + (j == 0 ? 0 : q[j - 1])) / 6;
            }
        }
        long sum = 0;
        for (int j = 10; j <= 40; j++) {
            sum += q[j];
        }
        DUE.is("26: ten of forty", many.chance(0), sum);
        DUE.is("26: no such thing", x.chance(3), -1);
        DUE.is("26: no such thing", x.chance(-2), -1);
    }

    private static void honestChances() {
        BlindSide x = Due.with("thing a 2; thing b 4;");
        DUE.is("27: without trials", x.honest(-1), ALL);
        x.trial(0, 0, 0, 9, 1, 1, false, 0);
        x.trial(0, 0, 0, 9, 1, 1, false, 0);
        x.trial(0, 0, 0, 9, 1, 1, false, 0);
        x.trial(0, 0, 0, 9, 1, 1, false, 0);
        x.trial(1, 0, 0, 9, 1, 1, false, 0);
        DUE.is("27: all are honest", x.honest(0), ALL / 16);
        x.moved(1, 1, 1);
        DUE.is("27: not the moved", x.honest(0), ALL / 8);
        x.voice(2, 1);
        DUE.is("27: nor the led", x.honest(0), ALL / 4);
        x.voice(3, 0);
        DUE.is("27: a voice not followed", x.honest(0), ALL / 4);
        DUE.is("27: of all", x.honest(-1), ALL / 16);
        DUE.is("27: chance takes all", x.chance(0), ALL / 16);
        DUE.is("27: no such thing", x.honest(2), -1);
        DUE.is("27: no such thing", x.honest(-2), -1);
    }

    private static void needs() {
        BlindSide x = Due.with("thing a 2; thing b 6;");
        DUE.is("28: one", x.needed(0, ALL), 1);
        DUE.is("28: one", x.needed(0, ALL / 2), 1);
        DUE.is("28: two", x.needed(0, ALL / 2 - 1), 2);
        DUE.is("28: of a hundred one", x.needed(0, ALL / 100), 7);
        DUE.is("28: of a hundred one", x.needed(1, ALL / 100), 3);
        DUE.is("28: of six", x.needed(1, 166666666666L), 1);
        DUE.is("28: of six", x.needed(1, 166666666665L), 2);
        DUE.is("28: none", x.needed(0, 0), 40);
        DUE.is("28: none", x.needed(1, 0), 16);
        DUE.is("28: cannot be", x.needed(0, -1), -1);
        DUE.is("28: no such thing", x.needed(2, ALL), -1);
        DUE.is("28: no such thing", x.needed(-1, ALL), -1);
    }

    private static void kinds() {
        BlindSide x = sample();
        int[] byLaw = {4, 5, 3, 0, 0, 7, 4, 7, 7, 1, 2, 3, 0};
        int[] byOther = {4, 5, 3, 0, 0, 6, 4, 6, 7, 1, 2, 3, 0};
        int[] sums = new int[8];
        for (int i = 0; i < byLaw.length; i++) {
            DUE.is("29: kind of " + i, x.kind(0, i), byLaw[i]);
            DUE.is("29: by another law " + i, x.kind(1, i), byOther[i]);
            sums[byOther[i]]++;
        }
        for (int kind = 0; kind < 8; kind++) {
            DUE.is("30: of kind " + kind, x.kinds(1, kind), sums[kind]);
        }
        DUE.is("29: a law without a way", x.kind(2, 5), 7);
        DUE.is("29: none such", x.kind(0, 13), -1);
        DUE.is("29: none such", x.kind(0, -1), -1);
        DUE.is("29: no such law", x.kind(3, 0), -1);
        DUE.is("29: no such law", x.kind(-1, 0), -1);
        DUE.is("30: no such kind", x.kinds(0, 8), -1);
        DUE.is("30: no such kind", x.kinds(0, -1), -1);
        DUE.is("30: no such law", x.kinds(-1, 0), -1);
        // what is not below the line is not LINED, nor what was never known
        Due.law(x, 2, "way k knows 40 when all; line 40 when all;");
        DUE.is("29: not below the line", x.kind(2, 5), 7);
        Due.law(x, 2, "way k blind 40 when all; line 41 when all;");
        DUE.is("29: never known", x.kind(2, 5), 7);
        Due.law(x, 2, "way k knows 1 when all; line 2 when all;");
        DUE.is("29: known at all", x.kind(2, 5), 6);
        // LIGHT 5 or more, and LIGHT 4
        x.trial(0, 8, 0, 50, 1, 1, false, 0);
        x.trial(0, 8, 0, 49, 1, 1, false, 0);
        DUE.is("29: light 5", x.kind(0, 13), 4);
        DUE.is("29: light 4", x.kind(0, 14), 7);
    }
}
