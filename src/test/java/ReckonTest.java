/** Promises 31 to 40: what TRIALS say of LAWS, and what parts LAWS. */
public final class ReckonTest {
    private static final Due DUE = new Due();
    private static final long ALL = 1000000000000L;

    public static void main(String[] args) {
        weights();
        likely();
        lies();
        spans();
        bounds();
        fewest();
        parted();
        nexts();
        nextRefused();
        undone();
        DUE.end();
    }

    private static void weights() {
        BlindSide x = Due.with("thing a 2; thing b 3;", "way k knows bright when all;", "way k blind 100 when bright > 50;");
        DUE.is("31: without trials", x.weight(0), ALL);
        DUE.is("32: without trials", x.thrown(0), -1);
        x.trial(0, 0, 0, 50, 1, 1, false, 0);
        DUE.is("31: right", x.weight(0), ALL / 4 * 3);
        x.trial(0, 0, 0, 60, 1, 0, false, 0);
        DUE.is("31: wrong", x.weight(0), ALL / 4 * 3 / 5);
        x.trial(1, 0, 0, 0, 1, 0, false, 0);
        DUE.is("31: nothing shown", x.weight(0), ALL / 20);
        x.trial(1, 0, 0, 1, 1, 1, false, 0);
        DUE.is("31: rounded down", x.weight(0), 50000000000L * 102 / 300);
        x.trial(1, 0, 0, 1, 1, 0, false, 0);
        DUE.is("31: rounded down", x.weight(0), 50000000000L * 102 / 300 * 99 / 300);
        DUE.is("31: odds 0", x.weight(1), 0);
        DUE.is("32: the first with odds 0", x.thrown(1), 1);
        DUE.is("32: not thrown out", x.thrown(0), -1);
        DUE.is("31: no such law", x.weight(2), -1);
        DUE.is("31: no such law", x.weight(-1), -1);
        DUE.is("32: no such law", x.thrown(2), -1);
        BlindSide y = Due.with("thing a 2; thing b 3;", "way k knows 1 when all;");
        for (int i = 0; i < 40; i++) {
            y.trial(0, 0, 0, 50, 1, 0, false, 0);
        }
        long weight = ALL;
        for (int i = 0; i < 40; i++) {
            weight = weight * 99 / 200;
        }
        DUE.is("31: rounded down each time", y.weight(0), weight);
        DUE.is("32: weight 0 is not thrown out", y.thrown(0), -1);
        Due.law(y, 0, "way k knows 100 when all;");
        DUE.is("32: by the first", y.thrown(0), 0);
    }

    private static void likely() {
        BlindSide x = Due.with("thing a 2;");
        DUE.is("33: without laws", x.likely(), -1);
        Due.law(x, 2, "way k knows 50 when all;");
        DUE.is("33: the only one", x.likely(), 2);
        Due.law(x, 1, "way k knows 20 when all;");
        DUE.is("33: the first of like ones", x.likely(), 1);
        x.trial(0, 0, 0, 50, 1, 1, false, 0);
        DUE.is("33: the greatest", x.likely(), 2);
        x.trial(0, 0, 0, 50, 1, 0, false, 0);
        DUE.is("33: another", x.likely(), 1);
        Due.law(x, 0, "way k knows 100 when all;");
        DUE.is("33: not one that is thrown out", x.likely(), 1);
        Due.law(x, 0, "way k knows 10 when all;");
        DUE.is("33: law 0", x.likely(), 0);
        BlindSide y = Due.with("thing a 2;");
        Due.law(y, 1, "way k knows 100 when all;");
        y.trial(0, 0, 0, 50, 1, 0, false, 0);
        DUE.is("33: weight 0 alone", y.likely(), 1);
    }

    private static void lies() {
        BlindSide x = Due.with("thing a 2;", "way k knows bright when all; line 50 when all;", "way k blind bright when all; line 50 when all;");
        DUE.is("34: without trials", x.lies(0), 0);
        x.trial(0, 0, 0, 50, 1, 1, true, 0);
        x.trial(0, 0, 0, 49, 1, 1, true, 0);
        x.trial(0, 0, 0, 50, 1, 0, false, 0);
        x.trial(0, 0, 0, 49, 1, 1, false, 0);
        x.trial(0, 0, 0, 99, 1, 0, false, 0);
        DUE.is("34: said too much, too little", x.lies(0), 3);
        DUE.is("34: never known", x.lies(1), 2);
        DUE.is("34: no such law", x.lies(2), -1);
        DUE.is("34: no such law", x.lies(-1), -1);
    }

    private static void span(BlindSide x, int law, int least, int most) {
        DUE.is("35: the least", x.span(law, false), least);
        DUE.is("35: the greatest", x.span(law, true), most);
    }

    private static void spans() {
        BlindSide x = Due.with("thing a 2;", "way k knows bright when all; way b blind 99 when all; line 50 when all;", "way k knows 100 when all;");
        span(x, 0, 0, 101);
        x.trial(0, 0, 0, 30, 1, 0, false, 0);
        span(x, 0, 31, 101);
        span(x, 1, 101, 101);
        x.trial(0, 0, 0, 60, 1, 0, true, 0);
        span(x, 0, 31, 60);
        span(x, 1, -1, -1);
        x.trial(0, 0, 0, 59, 1, 0, false, 0);
        x.trial(0, 0, 0, 7, 1, 0, false, 0);
        x.trial(0, 0, 0, 80, 1, 0, true, 0);
        span(x, 0, 60, 60);
        x.trial(0, 0, 0, 60, 1, 0, false, 0);
        span(x, 0, -1, -1);
        span(x, 2, -1, -1);
        span(x, -1, -1, -1);
        BlindSide y = Due.with("thing a 2;", "way k knows bright when all;");
        y.trial(0, 0, 0, 0, 1, 0, true, 0);
        span(y, 0, 0, 0);
    }

    private static void bounds() {
        BlindSide x = Due.with(Due.FIELD, Due.LAW);
        DUE.is("36: without", x.bound(), 0);
        DUE.is("37: without", x.left(), 0);
        x.trial(0, 8, 7, 90, 0, 0, false, 0);
        DUE.is("36: none on the disc", x.bound(), 0);
        DUE.is("37: light 9 is above 0", x.left(), 0);
        x.trial(0, 8, 4, 80, 1, 0, false, 0);
        DUE.is("36: on the disc", x.bound(), 8);
        DUE.is("37: light 9 is above 8", x.left(), 0);
        x.trial(0, 8, 4, 99, 1, 0, false, 0);
        x.trial(0, 8, 4, 70, 1, 0, false, 0);
        DUE.is("36: the greatest", x.bound(), 9);
        DUE.is("37: light 9 is not above 9", x.left(), 1);
        x.trial(0, 8, 7, 90, 0, 1, false, 0);
        DUE.is("37: not the wrong ones", x.left(), 1);
        x.trial(0, 8, 4, 1, 1, 1, false, 0);
        DUE.is("37: not those on the disc", x.left(), 1);
        x.trial(0, 3, 3, 1, 1, 1, false, 0);
        DUE.is("37: not those with sight", x.left(), 1);
        x.trial(1, 11, 7, 5, 1, 1, false, 0);
        DUE.is("37: another", x.left(), 2);
        BlindSide y = Due.with(Due.FIELD);
        y.trial(0, 8, 4, 90, 1, 0, false, 0);
        DUE.is("36: the first of all", y.bound(), 9);
        x.moved(6, 5, 1);
        DUE.is("36: where the eye has moved", x.bound(), 9);
        DUE.is("37: on the disc now", x.left(), 2);
    }

    private static void set(BlindSide x, int law, int size, int set) {
        DUE.is("38: how many", x.fewest(law, false), size);
        DUE.is("38: which", x.fewest(law, true), set);
    }

    private static void fewest() {
        BlindSide x = Due.with("thing a 2;", "way a knows 5 when column = 0; way b blind 5 when column = 1; way c knows 5 when column < 2;"
                + "way d knows 1 when column = 2; way e blind 1 when column = 2;", "");
        set(x, 0, 0, 0);
        set(x, 1, 0, 0);
        x.trial(0, 5, 0, 9, 1, 0, false, 0);
        x.trial(0, 5, 0, 0, 1, 1, false, 0);
        set(x, 0, 0, 0);
        x.trial(0, 0, 0, 9, 1, 1, false, 0);
        set(x, 0, 1, 1);
        x.trial(0, 1, 0, 1, 1, 1, false, 0);
        set(x, 0, 1, 4);
        x.trial(0, 2, 0, 9, 1, 1, false, 0);
        set(x, 0, 2, 12);
        set(x, 1, -1, -1);
        x.trial(0, 3, 0, 9, 1, 1, false, 0);
        set(x, 0, -1, -1);
        set(x, 2, -1, -1);
        set(x, -1, -1, -1);
        BlindSide y = Due.with("thing a 2;", "way a knows 1 when column = 0; way b knows 1 when column = 1; way c knows 1 when column = 2;"
                + "way d knows 1 when column = 3; way e knows 1 when column = 4;");
        for (int column = 0; column < 5; column++) {
            y.trial(0, column, 0, 9, 1, 1, false, 0);
        }
        set(y, 0, 5, 31);
    }

    /** What was undone counts no more, and 40 TRIALS are not too many. */
    private static void undone() {
        BlindSide x = Due.with(Due.FIELD, "way k knows bright when column = 0; line 50 when all;", Due.SURE);
        x.trial(0, 8, 4, 90, 0, 1, true, 0);
        x.undo();
        DUE.is("31: undone", x.weight(1), ALL);
        DUE.is("32: undone", x.thrown(1), -1);
        DUE.is("34: undone", x.lies(0), 0);
        span(x, 0, 0, 101);
        DUE.is("36: undone", x.bound(), 0);
        x.trial(0, 11, 0, 1, 0, 0, true, 0);
        x.undo();
        DUE.is("37: undone", x.left(), 0);
        set(x, 0, 0, 0);
        for (int i = 0; i < 40; i++) {
            x.trial(0, 11, 0, 1, 0, 0, true, 0);
        }
        DUE.is("34: 40", x.lies(0), 40);
        DUE.is("36: 40", x.bound(), 0);
        DUE.is("37: 40", x.left(), 40);
        span(x, 0, 0, 0);
        set(x, 0, -1, -1);
        set(x, 1, 1, 1);
        DUE.is("32: 40", x.thrown(1), -1);
        DUE.is("31: 40", x.weight(1), ALL);
        DUE.is("30: 40", x.kinds(0, 3), 40);
    }

    private static void parted() {
        BlindSide x = Due.with("thing a 2; thing b 3; thing c 6;", "way k knows bright when all;", "way k blind 50 when all;");
        DUE.is("39: of two sorts", x.parted(0, 1, 0, 0, 0, 80), 150000);
        DUE.is("39: the other way round", x.parted(1, 0, 0, 0, 0, 80), 150000);
        DUE.is("39: rounded down", x.parted(0, 1, 1, 0, 0, 51), 6666);
        DUE.is("39: of six sorts", x.parted(0, 1, 2, 0, 0, 49), 8333);
        DUE.is("39: alike", x.parted(0, 1, 2, 0, 0, 50), 0);
        DUE.is("39: nothing shown", x.parted(0, 1, 2, 0, 0, 0), 0);
        DUE.is("39: a law and itself", x.parted(0, 0, 2, 0, 0, 7), 0);
        DUE.is("39: no such law", x.parted(2, 1, 0, 0, 0, 5), -1);
        DUE.is("39: no such law", x.parted(0, -1, 0, 0, 0, 5), -1);
        DUE.is("39: no such thing", x.parted(0, 1, 3, 0, 0, 5), -1);
        DUE.is("39: no such column", x.parted(0, 1, 0, 12, 0, 5), -1);
        DUE.is("39: no such row", x.parted(0, 1, 0, 0, 8, 5), -1);
        DUE.is("39: too bright", x.parted(0, 1, 0, 0, 0, 100), -1);
    }

    private static void next(BlindSide x, int bright, int... want) {
        for (int what = 0; what < want.length; what++) {
            DUE.is("40: next(0, 1, " + bright + ", " + what + ")", x.next(0, 1, bright, what), want[what]);
        }
    }

    private static void nexts() {
        BlindSide x = Due.with("thing a 2; thing b 4; thing c 4;", "way k knows bright when column = 3 and row = 5 or column = 7 and row = 2;", "");
        next(x, 40, 1, 7, 2, 300000);
        next(x, 0, 0, 0, 0, 0);
        DUE.is("40: the other way round", x.next(1, 0, 40, 3), 300000);
        Due.law(x, 1, "way k knows bright when kind > 0;");
        next(x, 40, 1, 0, 0, 300000);
        Due.law(x, 1, "way k knows bright + 1 when column = 11 and row = 7 and kind = 2;");
        next(x, 40, 2, 11, 7, 307500);
        Due.law(x, 1, "way k knows bright * 2 when kind = 0 and row = 7 and column = 11;");
        next(x, 40, 0, 11, 7, 400000);
    }

    private static void nextRefused() {
        BlindSide x = Due.with("thing a 2;", "way k knows bright when all;", "");
        DUE.is("40: others", x.next(0, 1, 40, 4), -1);
        DUE.is("40: others", x.next(0, 1, 40, -1), -1);
        DUE.is("40: no such law", x.next(0, 2, 40, 0), -1);
        DUE.is("40: no such law", x.next(3, 1, 40, 0), -1);
        DUE.is("40: too bright", x.next(0, 1, 100, 0), -1);
        DUE.is("40: below 0", x.next(0, 1, -1, 0), -1);
        Due.field(x, "sight 1 when all;");
        DUE.is("40: no things", x.next(0, 1, 40, 0), -1);
    }
}
