import java.util.function.Consumer;
import java.util.function.Predicate;
import java.util.function.ToLongFunction;

/** What the tests share: it feeds texts, and counts the answers that are not as due. */
final class Due {
    static final int FIELD_TEXT = 0;
    static final int LAW_TEXT = 1;
    static final int PLAN_TEXT = 2;

    static final String FIELD = "sight 9 when column < 6; sight 3 when column = 9 and row = 2;"
            + " sight 2 when column = 10 and row = 2; disc 8 4; thing cross 2; thing face 4;";
    static final String LAW = "way eye knows sight * 11 when sight > 0;"
            + " way old blind 30 when kind = 1 and bright > 20;"
            + " way stray blind light * 2 when sight = 0; line 50 when all;";
    static final String SURE = "way sure knows 100 when bright > 0; line 100 when all;";
    static final String EYE = "way eye knows sight * 11 when all; line 20 when column > 6;";

    private int asked;
    private int wrong;
    private String heading = "";
    private int askedAhead = -1;

    /** The promise and the sentence of the document by which the answers that follow are due; there is one at least. */
    void by(int promise, String sentence) {
        askedBy();
        askedAhead = asked;
        heading = promise + ", \"" + sentence + "\": ";
    }

    void is(String call, long got, long want) {
        asked++;
        if (got != want) {
            wrong++;
            System.out.println(heading + call + " answered " + got + ", due is " + want);
        }
    }

    void is(String call, boolean got, boolean want) {
        is(call, got ? 1 : 0, want ? 1 : 0);
    }

    void is(String call, String got, String want) {
        asked++;
        if (!got.equals(want)) {
            wrong++;
            System.out.println(heading + call + " tells\n" + got + "\n, due is\n" + want);
        }
    }

    /** A text that is taken, behind the THINGS face and abcdef. */
    void takes(int sort, String text, int statements) {
        BlindSide x = with("thing face 4; thing abcdef 2;");
        is("taken: " + text, read(x, sort, text), statements);
        is("fault of: " + text, x.fault(0), 0);
        is("place in: " + text, x.fault(1), -1);
    }

    void refuses(int sort, String text, int fault, int place) {
        BlindSide x = with("thing face 4; thing abcdef 2;");
        is("refused: " + text, read(x, sort, text), -1);
        is("fault of: " + text, x.fault(0), fault);
        is("place in: " + text, x.fault(1), place);
    }

    /** A refused call on a Full object: it answers as told, and all stays, the tape too. */
    void leaves(String call, long want, ToLongFunction<BlindSide> refused) {
        BlindSide x = Full.made();
        String before = Full.told(x);
        is(call, refused.applyAsLong(x), want);
        is("what stays behind " + call, Full.told(x), before);
        is("the tape behind " + call, x.end(Full.TAPE.length() + 1), false);
        is("the tape behind " + call, x.end(Full.TAPE.length()), true);
        is("the tape behind " + call, x.law(2), 1);
        is("the tape behind " + call, x.carries(2, -3, 0, 0, 0, 1), Full.TAPE_LINE);
    }

    /** As above, for a call that answers false. */
    void leaves(String call, Predicate<BlindSide> refused) {
        leaves(call, 0, x -> refused.test(x) ? 1 : 0);
    }

    /** A call that takes the tape: behind it there is none, and all else that is told stays but the FAULT. */
    void leavesAllButTape(String call, long want, String tape, ToLongFunction<BlindSide> refused) {
        BlindSide x = Full.made();
        String before = Full.toldButFault(x);
        feed(x, tape);
        is(call, refused.applyAsLong(x), want);
        is("what stays behind " + call, Full.toldButFault(x), before);
        is("the tape behind " + call, x.end(1), false);
        is("the tape behind " + call, x.end(0), true);
    }

    /** A call that asks of a SHOWING by a LAW. */
    interface Asked {
        long answer(BlindSide x, int law, int thing, int column, int row, int bright);
    }

    /** Each number that can't be is refused by itself, on both sides, and all stays. */
    void leavesAsked(String call, long want, Asked asked) {
        for (int law : new int[] {-1, 3, Integer.MIN_VALUE, Integer.MAX_VALUE}) {
            leaves(call + " by law " + law, want, x -> asked.answer(x, law, 1, 0, 0, 5));
        }
        is(call + " by a law that is not there", asked.answer(with(FIELD, LAW), 1, 0, 0, 0, 5), want);
        leavesShown(call, want, (x, law, thing, column, row, bright) -> asked.answer(x, 2, thing, column, row, bright));
    }

    void leavesShown(String call, long want, Asked asked) {
        for (int thing : new int[] {-1, 2, Integer.MIN_VALUE, Integer.MAX_VALUE}) {
            leaves(call + " of thing " + thing, want, x -> asked.answer(x, 0, thing, 0, 0, 5));
        }
        for (int column : new int[] {-1, 12, Integer.MIN_VALUE, Integer.MAX_VALUE}) {
            leaves(call + " at column " + column, want, x -> asked.answer(x, 0, 1, column, 0, 5));
        }
        for (int row : new int[] {-1, 8, Integer.MIN_VALUE, Integer.MAX_VALUE}) {
            leaves(call + " at row " + row, want, x -> asked.answer(x, 0, 1, 0, row, 5));
        }
        for (int bright : new int[] {-1, 100, Integer.MIN_VALUE, Integer.MAX_VALUE}) {
            leaves(call + " of bright " + bright, want, x -> asked.answer(x, 0, 1, 0, 0, bright));
        }
        is(call + " without things", asked.answer(with("", LAW, LAW, LAW), 0, 0, 0, 0, 5), want);
    }

    /** What a call changes of a Full object, by the lines that are told of it. */
    void changes(String call, Consumer<BlindSide> change, String... lines) {
        BlindSide x = Full.made();
        String[] before = Full.told(x).split("\n");
        change.accept(x);
        String[] after = Full.told(x).split("\n");
        StringBuilder got = new StringBuilder();
        for (int k = 0; k < after.length; k++) {
            if (k >= before.length || !before[k].equals(after[k])) {
                got.append(after[k].split(":")[0]).append('\n');
            }
        }
        is("what changes by " + call, got.toString(), lines.length == 0 ? "" : String.join("\n", lines) + "\n");
    }

    private void askedBy() {
        if (asked == askedAhead) {
            wrong++;
            System.out.println(heading + "nothing was asked");
        }
    }

    void end() {
        askedBy();
        System.out.println(asked + " answers, " + wrong + " of them not as due");
        if (wrong != 0 || asked == 0) {
            System.exit(1);
        }
    }

    /** The tape gets a text of bytes, whatever was on it. */
    static void feed(BlindSide x, String text) {
        x.end(0);
        for (int from = 0; from < text.length(); from += 20) {
            x.feed(four(text, from), four(text, from + 4), four(text, from + 8), four(text, from + 12), four(text, from + 16));
        }
        x.end(text.length());
    }

    private static int four(String text, int from) {
        int number = 0;
        for (int k = from; k < from + 4; k++) {
            number = number << 8 | (k < text.length() ? text.charAt(k) : 'x');
        }
        return number;
    }

    static int read(BlindSide x, int sort, String text) {
        feed(x, text);
        return sort == FIELD_TEXT ? x.field() : sort == LAW_TEXT ? x.law(0) : x.plan();
    }

    static int field(BlindSide x, String text) {
        feed(x, text);
        return x.field();
    }

    static int law(BlindSide x, int k, String text) {
        feed(x, text);
        return x.law(k);
    }

    static int plan(BlindSide x, String text) {
        feed(x, text);
        return x.plan();
    }

    /** An object with a FIELD and LAWS from 0 on. */
    static BlindSide with(String field, String... laws) {
        BlindSide x = new BlindSide();
        if (field(x, field) < 0) {
            throw new IllegalStateException(field + ": fault " + x.fault(0) + " at " + x.fault(1));
        }
        for (int k = 0; k < laws.length; k++) {
            if (law(x, k, laws[k]) < 0) {
                throw new IllegalStateException(laws[k] + ": fault " + x.fault(0) + " at " + x.fault(1));
            }
        }
        return x;
    }
}
