/** The edges of what is concluded from TRIALS: promises 26 to 38. */
public final class ChanceEdgesTest {
    private static final Due DUE = new Due();
    private static final long ALL = 1000000000000L;
    private static final int LEAST = Integer.MIN_VALUE;
    private static final int MOST = Integer.MAX_VALUE;
    private static final int[] NO_LAWS = {-1, 3, LEAST, MOST};

    public static void main(String[] args) {
        chances();
        chancesOfForty();
        chance();
        honest();
        needed();
        kinds();
        kindOfTrials();
        howManyOfKind();
        weights();
        weightsOfForty();
        thrown();
        likely();
        lies();
        spans();
        span();
        bounds();
        left();
        fewest();
        DUE.end();
    }

    /** Trials with 0 as the sort, so many of them right, at column 5, row 5. */
    private static void add(BlindSide x, int thing, int right, int wrong) {
        for (int i = 0; i < right + wrong; i++) {
            x.trial(thing, 5, 5, 9, 0, i < right ? 0 : 1, false, 0);
        }
    }

    private static BlindSide with(int thing, int right, int wrong) {
        BlindSide x = Due.with("thing a 2;thing b 3;thing c 6;", "");
        add(x, thing, right, wrong);
        return x;
    }

    private static void chances() {
        DUE.by(26, "CHANCE of TRIALS: how many of 10 to the 12 have as many RIGHT or more, if all is guessed: q(0) is 10 to the 12 at first, all others 0; by each TRIAL, in order, of so many sorts, q(j) becomes floor((q(j) times (sorts - 1) + q(j - 1)) / sorts), for all j by those ahead; the sum of q from as many as are RIGHT on.");
        DUE.is("no trial", with(0, 0, 0).chance(0), ALL);
        DUE.is("0 of 1", with(0, 0, 1).chance(0), ALL);
        DUE.is("1 of 1", with(0, 1, 0).chance(0), ALL / 2);
        DUE.is("0 of 2", with(0, 0, 2).chance(0), ALL);
        DUE.is("1 of 2", with(0, 1, 1).chance(0), 750000000000L);
        DUE.is("2 of 2", with(0, 2, 0).chance(0), 250000000000L);
        DUE.is("0 of 1 of three sorts, rounded down", with(1, 0, 1).chance(1), 999999999999L);
        DUE.is("1 of 1 of three sorts, rounded down", with(1, 1, 0).chance(1), 333333333333L);
        // 666666666666, 333333333333 become 444444444444, 444444444444, 111111111111
        DUE.is("0 of 2 of three sorts", with(1, 0, 2).chance(1), 999999999999L);
        DUE.is("1 of 2 of three sorts", with(1, 1, 1).chance(1), 555555555555L);
        DUE.is("2 of 2 of three sorts", with(1, 2, 0).chance(1), 111111111111L);
        DUE.is("1 of 1 of six sorts", with(2, 1, 0).chance(2), 166666666666L);
        DUE.is("0 of 1 of six sorts", with(2, 0, 1).chance(2), 999999999999L);
        // in order: two sorts, then three; and three, then two
        BlindSide x = with(0, 1, 0);
        add(x, 1, 1, 0);
        DUE.is("of two sorts, then of three", x.chance(-1), 166666666666L);
        BlindSide y = with(1, 0, 1);
        add(y, 0, 1, 0);
        DUE.is("of three sorts, then of two", y.chance(-1), 499999999999L + 166666666666L);
        y.undo();
        add(y, 0, 0, 1);
        DUE.is("none right of three sorts, then of two", y.chance(-1), 333333333333L + 499999999999L + 166666666666L);
    }

    private static void chancesOfForty() {
        DUE.by(26, "for all j by those ahead; the sum of q from as many as are RIGHT on.");
        for (int thing = 0; thing < 3; thing++) {
            int sorts = thing == 0 ? 2 : thing == 1 ? 3 : 6;
            long[] q = new long[42];
            q[0] = ALL;
            for (int i = 0; i < 40; i++) {
                long[] ahead = q.clone();
                for (int j = 0; j < 42; j++) {
                    q[j] = (ahead[j] * (sorts - 1) + (j == 0 ? 0 : ahead[j - 1])) / sorts;
                }
            }
            long sum = 0;
            for (int right = 41; right >= 0; right--) {
                sum += q[right];
                if (right <= 40) {
                    DUE.is(right + " of 40 of " + sorts + " sorts", with(thing, right, 40 - right).chance(thing), sum);
                }
            }
        }
    }

    private static void chance() {
        DUE.by(26, "CHANCE of the TRIALS of a THING (NONE: of all); -1 when there is none such.");
        BlindSide x = with(0, 1, 0);
        add(x, 2, 1, 0);
        DUE.is("of the first", x.chance(0), ALL / 2);
        DUE.is("of one without trials", x.chance(1), ALL);
        DUE.is("of the last", x.chance(2), 166666666666L);
        DUE.is("of all", x.chance(-1), 83333333333L);
        for (int thing : new int[] {-2, 2, LEAST, MOST}) {
            DUE.leaves("chance(" + thing + ")", -1, y -> y.chance(thing));
        }
        DUE.is("of all, without things", new BlindSide().chance(-1), ALL);
        DUE.is("of a thing, without things", new BlindSide().chance(0), -1);
    }

    private static void honest() {
        DUE.by(27, "HONEST CHANCE: that of those that are neither MOVED nor LED.");
        BlindSide x = with(0, 3, 0);
        DUE.is("all of them", x.honest(0), ALL / 8);
        x.voice(0, 1);
        DUE.is("a voice that was not followed", x.honest(0), ALL / 8);
        x.moved(0, 1, 0);
        DUE.is("one has moved", x.honest(0), ALL / 4);
        x.voice(1, 0);
        DUE.is("one is led", x.honest(0), ALL / 2);
        x.moved(1, 1, 0);
        DUE.is("led and moved", x.honest(0), ALL / 2);
        x.voice(2, 0);
        DUE.is("none is left", x.honest(0), ALL);
        DUE.is("chance has all", x.chance(0), ALL / 8);
        BlindSide wrong = with(0, 1, 2);
        wrong.moved(2, 1, 0);
        DUE.is("a wrong one has moved", wrong.honest(0), 750000000000L);
        wrong.voice(1, 1);
        DUE.is("a wrong one is led", wrong.honest(0), ALL / 2);
        DUE.by(27, "HONEST CHANCE of a THING (NONE: of all); -1 when there is none such.");
        BlindSide two = with(0, 1, 0);
        add(two, 2, 2, 0);
        two.moved(2, 1, 0);
        DUE.is("of the first", two.honest(0), ALL / 2);
        DUE.is("of one without trials", two.honest(1), ALL);
        DUE.is("of the last", two.honest(2), 166666666666L);
        DUE.is("of all", two.honest(-1), 83333333333L);
        for (int thing : new int[] {-2, 2, LEAST, MOST}) {
            DUE.leaves("honest(" + thing + ")", -1, y -> y.honest(thing));
        }
        DUE.is("of a thing, without things", new BlindSide().honest(0), -1);
    }

    private static void needed() {
        DUE.by(28, "NEEDED of a THING for a chance: the least number of guesses, 1 .. 60, all RIGHT, whose CHANCE is not above it.");
        BlindSide x = with(0, 0, 0);
        DUE.is("all: at least one", x.needed(0, ALL), 1);
        DUE.is("more than all", x.needed(0, Long.MAX_VALUE), 1);
        DUE.is("just half", x.needed(0, ALL / 2), 1);
        DUE.is("one less than half", x.needed(0, ALL / 2 - 1), 2);
        DUE.is("a sixth, rounded down", x.needed(2, 166666666666L), 1);
        DUE.is("one less than that", x.needed(2, 166666666665L), 2);
        DUE.is("of three sorts", x.needed(1, 37037037037L), 3);
        DUE.is("of three sorts", x.needed(1, 37037037036L), 4);
        DUE.is("a chance of 1, two sorts", x.needed(0, 1), 39);
        DUE.is("a chance of 0, two sorts", x.needed(0, 0), 40);
        DUE.is("a chance of 0, three sorts", x.needed(1, 0), 26);
        DUE.is("a chance of 0, six sorts", x.needed(2, 0), 16);
        DUE.by(28, "NEEDED of a THING for a chance of so many of 10 to the 12; NONE when there is none such.");
        for (long chance : new long[] {-1, Long.MIN_VALUE}) {
            DUE.leaves("needed(0, " + chance + ")", -1, y -> y.needed(0, chance));
        }
        for (int thing : new int[] {-1, 2, LEAST, MOST}) {
            DUE.leaves("needed(" + thing + ", 5)", -1, y -> y.needed(thing, 5));
        }
        DUE.is("without things", new BlindSide().needed(0, ALL), -1);
        DUE.is("trials are no matter", with(0, 9, 9).needed(0, ALL / 2), 1);
    }

    /** SIGHT 9 in columns 0 and 1, an island of 1 at column 4, row 0; the DISC at column 2, row 7. */
    private static BlindSide sided() {
        return Due.with("sight 9 when column < 2;sight 1 when column = 4 and row = 0;disc 2 7;thing a 2;",
                "way k knows 40 when column = 0;way l knows bright when column = 1;line 50 when all;");
    }

    private static int kind(int column, int row, int bright, boolean right, boolean said) {
        BlindSide x = sided();
        x.trial(0, column, row, bright, 1, right ? 1 : 0, said, 0);
        return x.kind(0, 0);
    }

    private static void kinds() {
        DUE.by(29, "KINDS of a TRIAL by a LAW, the first that holds: 0 WRONG (not RIGHT); 1 MOVED; 2 LED; 3 SEEN (he said that he saw); 4 SCATTERED (GONE or on the DISC, LIGHT 5 or more); 5 ISLAND (its SQUARE is in one); 6 LINED (KNOWN above 0 and below the LINE); 7 GUESSED.");
        BlindSide x = sided();
        x.trial(0, 0, 0, 9, 1, 0, true, 0);
        x.voice(0, 0);
        x.moved(0, 1, 0);
        x.trial(0, 0, 0, 9, 1, 1, true, 0);
        x.voice(1, 1);
        x.moved(1, 1, 0);
        x.trial(0, 0, 0, 9, 1, 1, true, 0);
        x.voice(2, 1);
        x.trial(0, 0, 0, 9, 1, 1, true, 0);
        x.voice(3, 0);
        for (int i = 0; i < 4; i++) {
            DUE.is("wrong, moved, led, seen: the first", x.kind(0, i), i);
        }
        DUE.is("gone, light 5", kind(4, 7, 50, true, false), 4);
        DUE.is("gone, light 4", kind(4, 7, 49, true, false), 7);
        DUE.is("gone, light 5, seen", kind(4, 7, 50, true, true), 3);
        DUE.is("on the disc, light 5", kind(2, 7, 10, true, false), 4);
        DUE.is("on the disc, light 4", kind(2, 7, 9, true, false), 7);
        DUE.is("on an island, light 9", kind(4, 0, 99, true, false), 5);
        DUE.is("on an island, wrong", kind(4, 0, 99, false, false), 0);
        DUE.is("on an island, bright 0", kind(4, 0, 0, true, false), 5);
        DUE.is("light 49, in sight", kind(0, 0, 99, true, false), 6);
        DUE.is("known 40, line 50", kind(0, 0, 9, true, false), 6);
        DUE.is("known 1, line 50", kind(1, 0, 1, true, false), 6);
        DUE.is("known 49, line 50", kind(1, 0, 49, true, false), 6);
        DUE.is("known 50, line 50", kind(1, 0, 50, true, false), 7);
        DUE.is("known 0", kind(0, 0, 0, true, false), 7);
        DUE.is("known by none", kind(9, 7, 9, true, false), 7);
    }

    private static void kindOfTrials() {
        DUE.by(29, "KIND of TRIAL i by a LAW; NONE when there is none such.");
        int[] kinds = {4, 1, 0};
        for (int i = 0; i < kinds.length; i++) {
            DUE.is("trial " + i, Full.made().kind(0, i), kinds[i]);
        }
        for (int law : NO_LAWS) {
            DUE.leaves("kind by law " + law, -1, x -> x.kind(law, 0));
        }
        for (int i : new int[] {-1, 3, 40, LEAST, MOST}) {
            DUE.leaves("kind of trial " + i, -1, x -> x.kind(0, i));
        }
        BlindSide x = with(0, 40, 0);
        DUE.is("the last of forty", x.kind(0, 39), 7);
        DUE.is("no more", x.kind(0, 40), -1);
        DUE.is("a law that is not there", x.kind(1, 0), -1);
        DUE.is("without trials", with(0, 0, 0).kind(0, 0), -1);
    }

    private static void howManyOfKind() {
        DUE.by(30, "How many TRIALS are of a KIND by a LAW; NONE when there is none such.");
        int[] full = {1, 1, 0, 0, 1, 0, 0, 0};
        for (int kind = 0; kind < 8; kind++) {
            DUE.is("of kind " + kind, Full.made().kinds(0, kind), full[kind]);
            DUE.is("without trials, of kind " + kind, with(0, 0, 0).kinds(0, kind), 0);
        }
        DUE.is("forty", with(0, 40, 0).kinds(0, 7), 40);
        DUE.is("forty", with(0, 0, 40).kinds(0, 0), 40);
        for (int law : NO_LAWS) {
            DUE.leaves("kinds by law " + law, -1, x -> x.kinds(law, 0));
        }
        for (int kind : new int[] {-1, 8, LEAST, MOST}) {
            DUE.leaves("kinds of kind " + kind, -1, x -> x.kinds(0, kind));
        }
        DUE.is("a law that is not there", with(0, 1, 0).kinds(1, 0), -1);
    }

    private static BlindSide carrying(int carried, int thing, int right, int wrong) {
        BlindSide x = with(thing, 0, 0);
        Due.law(x, 1, "way w blind " + carried + " when all;");
        add(x, thing, right, wrong);
        return x;
    }

    private static void weights() {
        DUE.by(31, "WEIGHT of a LAW: 10 to the 12 at first; by each TRIAL, in order, floor(it times the ODDS of what was guessed).");
        DUE.is("at first", carrying(50, 0, 0, 0).weight(1), ALL);
        DUE.is("right", carrying(50, 0, 1, 0).weight(1), 750000000000L);
        DUE.is("wrong", carrying(50, 0, 0, 1).weight(1), 250000000000L);
        DUE.is("right, all carried", carrying(100, 0, 1, 0).weight(1), ALL);
        DUE.is("wrong, all carried", carrying(100, 0, 0, 1).weight(1), 0);
        DUE.is("right of three, rounded down", carrying(0, 1, 1, 0).weight(1), 333333333333L);
        DUE.is("wrong of three, rounded down", carrying(0, 1, 0, 1).weight(1), 333333333333L);
        DUE.is("twice of three, rounded down twice", carrying(0, 1, 1, 1).weight(1), 111111111111L);
        DUE.is("right of six", carrying(1, 2, 1, 0).weight(1), 175000000000L);
        DUE.is("wrong of six", carrying(1, 2, 0, 1).weight(1), 165000000000L);
        DUE.by(31, "WEIGHT of a LAW; -1 when there is none such.");
        for (int law : NO_LAWS) {
            DUE.leaves("weight(" + law + ")", -1, x -> x.weight(law));
        }
        DUE.is("a law that is not there", with(0, 1, 0).weight(2), -1);
        DUE.is("without things", Due.with("", "").weight(0), ALL);
    }

    private static void weightsOfForty() {
        DUE.by(31, "by each TRIAL, in order, floor(it times the ODDS of what was guessed).");
        long half = ALL;
        long sixth = ALL;
        for (int i = 0; i < 40; i++) {
            half = half * 99 / 200;
            sixth = sixth * 97 / 600;
        }
        DUE.is("forty wrong of two sorts", carrying(1, 0, 0, 40).weight(1), half);
        DUE.is("forty wrong of six sorts", carrying(3, 2, 0, 40).weight(1), sixth);
        DUE.is("forty right, all carried", carrying(100, 2, 40, 0).weight(1), ALL);
        DUE.is("39 right, one wrong, all carried", carrying(100, 2, 39, 1).weight(1), 0);
    }

    private static void thrown() {
        DUE.by(32, "It is THROWN OUT by the first TRIAL with ODDS 0.");
        DUE.is("by the first", carrying(100, 0, 0, 3).thrown(1), 0);
        DUE.is("by the second", carrying(100, 0, 1, 3).thrown(1), 1);
        DUE.is("by the last", carrying(100, 0, 39, 1).thrown(1), 39);
        DUE.is("by none that is right", carrying(100, 0, 40, 0).thrown(1), -1);
        DUE.is("not by small odds", carrying(99, 2, 0, 40).thrown(1), -1);
        DUE.is("though its weight is 0", carrying(99, 2, 0, 40).weight(1), 0);
        DUE.is("without trials", carrying(100, 0, 0, 0).thrown(1), -1);
        DUE.by(32, "The TRIAL by which a LAW is THROWN OUT; NONE when it is not, or there is none such.");
        DUE.is("of three", Full.made().thrown(2), 2);
        DUE.is("it is not", Full.made().thrown(0), -1);
        for (int law : NO_LAWS) {
            DUE.leaves("thrown(" + law + ")", -1, x -> x.thrown(law));
        }
        DUE.is("a law that is not there", carrying(100, 0, 0, 3).thrown(2), -1);
    }

    private static void likely() {
        DUE.by(33, "The LAW with the greatest WEIGHT, the first of like ones; NONE without LAWS.");
        DUE.is("without laws", Due.with("thing a 2;").likely(), -1);
        BlindSide x = Due.with("thing a 2;");
        Due.law(x, 2, "");
        DUE.is("the last alone", x.likely(), 2);
        Due.law(x, 1, "");
        DUE.is("the first of two like ones", x.likely(), 1);
        Due.law(x, 0, "");
        DUE.is("the first of three like ones", x.likely(), 0);
        x.trial(0, 0, 0, 9, 1, 1, false, 0);
        DUE.is("like ones yet", x.likely(), 0);
        Due.law(x, 2, "way w blind 1 when all;");
        DUE.is("the last, by a little", x.likely(), 2);
        Due.law(x, 1, "way w blind 1 when all;");
        DUE.is("the first of two that are greatest", x.likely(), 1);
        for (int k = 0; k < 3; k++) {
            Due.law(x, k, "way w blind 100 when all;");
        }
        x.trial(0, 0, 0, 9, 1, 0, false, 0);
        DUE.is("all of weight 0", x.likely(), 0);
        BlindSide last = Due.with("thing a 2;");
        Due.law(last, 2, "way w blind 100 when all;");
        last.trial(0, 0, 0, 9, 1, 0, false, 0);
        DUE.is("one alone of weight 0", last.likely(), 2);
    }

    private static void lies() {
        DUE.by(34, "LIES by a LAW: TRIALS in which he said another thing than he SAYS.");
        BlindSide x = Due.with("thing a 2;", "way k knows bright when all;line 50 when all;");
        DUE.is("without trials", x.lies(0), 0);
        x.trial(0, 0, 0, 50, 0, 0, true, 0);
        x.trial(0, 0, 0, 49, 0, 0, false, 0);
        DUE.is("as he says", x.lies(0), 0);
        x.trial(0, 0, 0, 49, 0, 0, true, 0);
        DUE.is("said, just below the line", x.lies(0), 1);
        x.trial(0, 0, 0, 50, 0, 1, false, 0);
        DUE.is("not said, just at the line", x.lies(0), 2);
        for (int i = 4; i < 40; i++) {
            x.trial(0, 0, 0, 0, 0, 1, true, 0);
        }
        DUE.is("most of forty", x.lies(0), 38);
        DUE.by(34, "How many TRIALS are LIES by a LAW; NONE when there is none such.");
        for (int law : NO_LAWS) {
            DUE.leaves("lies(" + law + ")", -1, y -> y.lies(law));
        }
        DUE.is("a law that is not there", x.lies(1), -1);
    }

    private static void isSpan(BlindSide x, int least, int greatest) {
        DUE.is("the least", x.span(0, false), least);
        DUE.is("the greatest", x.span(0, true), greatest);
    }

    private static void spans() {
        DUE.by(35, "SPAN: the lines 0 .. 101, one for all, by which none of the TRIALS lies.");
        BlindSide x = Due.with("thing a 2;", "way k knows bright when row = 0;way b blind 100 when all;line 7 when all;");
        isSpan(x, 0, 101);
        x.trial(0, 0, 0, 99, 0, 0, true, 0);
        isSpan(x, 0, 99);
        x.trial(0, 0, 0, 20, 0, 1, false, 0);
        isSpan(x, 21, 99);
        x.trial(0, 0, 0, 21, 0, 1, true, 0);
        isSpan(x, 21, 21);
        x.trial(0, 0, 0, 21, 0, 1, false, 0);
        isSpan(x, -1, -1);
        x.undo();
        isSpan(x, 21, 21);
        BlindSide never = Due.with("thing a 2;", "way k knows 100 when all;");
        never.trial(0, 0, 0, 1, 0, 0, false, 0);
        isSpan(never, 101, 101);
        never.trial(0, 0, 0, 1, 0, 0, true, 0);
        isSpan(never, -1, -1);
        BlindSide nothing = Due.with("thing a 2;", "way k knows 100 when all;");
        nothing.trial(0, 0, 0, 0, 0, 0, true, 0);
        isSpan(nothing, 0, 0);
        BlindSide not = Due.with("thing a 2;", "");
        not.trial(0, 0, 0, 9, 0, 0, false, 0);
        isSpan(not, 1, 101);
        BlindSide all = Due.with("thing a 2;", "way k knows 100 when all;");
        all.trial(0, 0, 0, 9, 0, 0, true, 0);
        isSpan(all, 0, 100);
    }

    private static void span() {
        DUE.by(35, "The least (most false) or the greatest line of the SPAN by a LAW; NONE when there is none, or no such LAW.");
        isSpan(Full.made(), 23, 99);
        for (int law : NO_LAWS) {
            DUE.leaves("least of span(" + law + ")", -1, x -> x.span(law, false));
            DUE.leaves("greatest of span(" + law + ")", -1, x -> x.span(law, true));
        }
        DUE.is("a law that is not there", with(0, 0, 0).span(1, false), -1);
        DUE.is("a law that is not there", with(0, 0, 0).span(1, true), -1);
    }

    private static BlindSide lit() {
        return Due.with("disc 1 0;sight 9 when column = 0 and row = 0;thing a 2;");
    }

    private static void bounds() {
        DUE.by(36, "BOUND: the greatest LIGHT of TRIALS on the DISC (0 without);");
        BlindSide x = lit();
        DUE.is("without trials", x.bound(), 0);
        x.trial(0, 0, 1, 99, 0, 0, false, 0);
        DUE.is("none on the disc", x.bound(), 0);
        x.trial(0, 1, 0, 1, 0, 0, false, 0);
        DUE.is("on the disc, without light", x.bound(), 0);
        x.trial(0, 1, 0, 40, 0, 1, false, 0);
        DUE.is("a wrong one, too", x.bound(), 20);
        x.trial(0, 1, 0, 20, 0, 0, false, 0);
        DUE.is("not the last, the greatest", x.bound(), 20);
        x.trial(0, 2, 0, 99, 0, 0, true, 0);
        x.moved(4, -1, 0);
        DUE.is("one that has moved there", x.bound(), 49);
        DUE.is("the disc that is not told", Full.made().bound(), 0);
        DUE.by(36, "BOUND.");
        for (int i = 5; i < 40; i++) {
            x.trial(0, 1, 0, 60, 0, 0, true, 0);
        }
        DUE.is("of forty", x.bound(), 49);
    }

    private static void left() {
        DUE.by(37, "LEFT: GONE ones that are RIGHT, with LIGHT not above the BOUND.");
        BlindSide x = lit();
        DUE.is("without trials", x.left(), 0);
        x.trial(0, 2, 0, 9, 0, 0, false, 0);
        DUE.is("light 1, bound 0", x.left(), 0);
        x.trial(0, 2, 0, 4, 0, 0, false, 0);
        DUE.is("light 0, bound 0", x.left(), 1);
        x.trial(0, 1, 0, 2, 0, 1, false, 0);
        DUE.is("light 1, bound 1", x.left(), 2);
        x.trial(0, 2, 0, 10, 0, 0, false, 0);
        DUE.is("light 2, bound 1", x.left(), 2);
        x.trial(0, 2, 0, 9, 0, 1, false, 0);
        DUE.is("a wrong one", x.left(), 2);
        x.trial(0, 0, 0, 9, 0, 0, false, 0);
        DUE.is("one with sight", x.left(), 2);
        x.trial(0, 1, 0, 2, 0, 0, false, 0);
        DUE.is("one on the disc", x.left(), 2);
        x.trial(0, 0, 0, 9, 0, 0, false, 0);
        x.moved(7, 2, 0);
        DUE.is("one that has moved there", x.left(), 3);
        DUE.by(37, "How many are LEFT.");
        for (int i = 8; i < 40; i++) {
            x.trial(0, 11, 7, 99, 0, 0, false, 0);
        }
        DUE.is("of forty", x.left(), 35);
    }

    private static void isFewest(BlindSide x, int law, int many, int set) {
        DUE.is("how many", x.fewest(law, false), many);
        DUE.is("which", x.fewest(law, true), set);
    }

    private static void fewest() {
        DUE.by(38, "FEWEST: the fewest WAYS of a LAW by which of each RIGHT TRIAL, but those of BRIGHT 0, something is carried; of like ones the set with the least number.");
        BlindSide x = Due.with("thing a 2;", "way a knows 1 when row = 0 and column < 2;way b knows 1 when row = 0 and column > 1 and column < 4;"
                + "way c blind 1 when column = 1 or column = 2;way d blind 1 when column = 0 or column = 3;way e knows 0 when all;", "");
        isFewest(x, 0, 0, 0);
        isFewest(x, 1, 0, 0);
        x.trial(0, 1, 0, 0, 0, 0, false, 0);
        x.trial(0, 1, 0, 9, 0, 1, false, 0);
        isFewest(x, 0, 0, 0);
        isFewest(x, 1, 0, 0);
        x.trial(0, 1, 0, 1, 0, 0, false, 0);
        isFewest(x, 0, 1, 1);
        isFewest(x, 1, -1, -1);
        x.trial(0, 2, 0, 9, 0, 0, false, 0);
        isFewest(x, 0, 1, 4);
        x.trial(0, 3, 0, 9, 0, 0, false, 0);
        isFewest(x, 0, 2, 3);
        x.trial(0, 0, 1, 9, 0, 0, false, 0);
        isFewest(x, 0, 2, 12);
        x.trial(0, 5, 0, 9, 0, 0, false, 0);
        isFewest(x, 0, -1, -1);
        Due.law(x, 0, "way a knows 1 when column = 0;way b knows 1 when column = 1;way c blind 1 when column = 2;way d knows 1 when column = 3;way e blind 1 when column = 5;");
        isFewest(x, 0, 5, 31);
        Due.law(x, 0, "way a knows 0 when all;way b knows 0 - 1 when all;way c blind 0 when all;way d blind 0 when all;way e blind 1 when all;");
        isFewest(x, 0, 1, 16);
        DUE.by(38, "FEWEST of a LAW (set false), or which (bits); NONE when there is no such set, or LAW.");
        isFewest(Full.made(), 0, 2, 3);
        for (int law : NO_LAWS) {
            DUE.leaves("fewest(" + law + ", false)", -1, y -> y.fewest(law, false));
            DUE.leaves("fewest(" + law + ", true)", -1, y -> y.fewest(law, true));
        }
        isFewest(with(0, 0, 0), 1, -1, -1);
        isFewest(with(0, 0, 0), 0, 0, 0);
        isFewest(with(0, 40, 0), 0, -1, -1);
    }
}
