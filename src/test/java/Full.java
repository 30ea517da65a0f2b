/** An object in which there is something of everything, and all that it tells. */
final class Full {
    /** What is on the tape: a LAW of one line. */
    static final String TAPE = "line 7 when all;";
    static final int TAPE_LINE = 7;
    private static final int TRIALS = 3;

    private Full() {
    }

    static BlindSide made() {
        BlindSide x = Due.with(Due.FIELD, Due.LAW, Due.EYE, Due.SURE);
        Due.plan(x, "show cross 0 0 99; times 2[show face 7 0 60;];");
        x.trial(1, 7, 0, 60, 2, 2, false, 3);
        x.trial(0, 9, 2, 90, 1, 1, false, 5);
        x.trial(1, 3, 3, 99, 3, 0, true, 9);
        x.moved(1, 1, 0);
        x.voice(2, 3);
        x.chair(1, 0, true);
        x.chair(5, 5, true);
        x.image();
        Due.field(x, "disc 12 0;");
        Due.feed(x, TAPE);
        return x;
    }

    /** A line for each of what may change; none of the calls changes anything. */
    static String told(BlindSide x) {
        return "fault: " + x.fault(0) + " at " + x.fault(1) + "\n" + toldButFault(x);
    }

    static String toldButFault(BlindSide x) {
        StringBuilder text = new StringBuilder("has:");
        for (int what = 0; what < 10; what++) {
            text.append(' ').append(x.has(what));
        }
        text.append("\nnames: ").append(x.letter(-1, 0, 0)).append(' ').append(x.letter(-1, 1, 0));
        text.append("\nsights: ").append(x.sight(0, 0)).append(' ').append(x.sight(9, 2)).append(' ').append(x.sight(8, 4));
        for (int law = 0; law < 3; law++) {
            text.append("\nlaw ").append(law).append(": ").append(x.letter(law, 0, 0));
            for (int way = -1; way >= -3; way--) {
                text.append(' ').append(x.carries(law, way, 1, 7, 0, 60)).append(' ').append(x.carries(law, way, 0, 0, 0, 99));
            }
        }
        for (int i = 0; i < TRIALS; i++) {
            text.append("\ntrial ").append(i).append(':');
            for (int what = 0; what < 12; what++) {
                text.append(' ').append(x.tried(i, what));
            }
        }
        text.append("\nimage: ").append(x.octet(0)).append(' ').append(x.octet(1)).append(' ').append(x.octet(25)).append(' ').append(x.octet(26));
        text.append("\nwalks: ").append(x.walks(0)).append(' ').append(x.walks(3));
        return text.append('\n').toString();
    }
}
