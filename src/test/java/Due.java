/** What the tests share: it feeds texts, and counts the answers that are not as due. */
final class Due {
    static final String FIELD = "sight 9 when column < 6; sight 3 when column = 9 and row = 2;"
            + " sight 2 when column = 10 and row = 2; disc 8 4; thing cross 2; thing face 4;";
    static final String LAW = "way eye knows sight * 11 when sight > 0;"
            + " way old blind 30 when kind = 1 and bright > 20;"
            + " way stray blind light * 2 when sight = 0; line 50 when all;";
    static final String SURE = "way sure knows 100 when bright > 0; line 100 when all;";
    static final String EYE = "way eye knows sight * 11 when all; line 20 when column > 6;";

    private int asked;
    private int wrong;

    void is(String call, long got, long want) {
        asked++;
        if (got != want) {
            wrong++;
            System.out.println(call + " answered " + got + ", due is " + want);
        }
    }

    void is(String call, boolean got, boolean want) {
        is(call, got ? 1 : 0, want ? 1 : 0);
    }

    void end() {
        System.out.println(asked + " answers, " + wrong + " of them not as due");
        if (wrong != 0 || asked == 0) {
            System.exit(1);
        }
    }

    /** The tape gets a text of bytes, whatever was on it. */
    static void feed(BlindSide x, String text) {
        x.end(0);
        for (int from = 0; from < text.length(); from += 20) {
            x.feed(four(text, from), four(text, from + 4), four(text, from + 8), four(text, from + 12), four(text, from + 16));
        }
        x.end(text.length());
    }

    private static int four(String text, int from) {
        int number = 0;
        for (int k = from; k < from + 4; k++) {
            number = number << 8 | (k < text.length() ? text.charAt(k) : 'x');
        }
        return number;
    }

    static int field(BlindSide x, String text) {
        feed(x, text);
        return x.field();
    }

    static int law(BlindSide x, int k, String text) {
        feed(x, text);
        return x.law(k);
    }

    static int plan(BlindSide x, String text) {
        feed(x, text);
        return x.plan();
    }

    /** An object with a FIELD and LAWS from 0 on. */
    static BlindSide with(String field, String... laws) {
        BlindSide x = new BlindSide();
        if (field(x, field) < 0) {
            throw new IllegalStateException(field + ": fault " + x.fault(0) + " at " + x.fault(1));
        }
        for (int k = 0; k < laws.length; k++) {
            if (law(x, k, laws[k]) < 0) {
                throw new IllegalStateException(laws[k] + ": fault " + x.fault(0) + " at " + x.fault(1));
            }
        }
        return x;
    }
}
