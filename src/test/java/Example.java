/** A field, a law and a few trials: the example that README.md shows. */
public final class Example {
    public static void main(String[] args) {
        BlindSide x = new BlindSide();
        put(x, "sight 9 when column < 6; sight 3 when column = 9 and row = 2; disc 8 4; thing cross 2; thing face 4;");
        System.out.println("statements of the field: " + x.field());
        put(x, "way eye knows sight * 11 when sight > 0; way stray blind light * 2 when sight = 0; line 50 when all;");
        System.out.println("statements of law 0: " + x.law(0));
        System.out.println("light at 7 0 of a thing that bright: " + x.light(7, 0, 60));
        System.out.println("carried, known, the line: " + x.carries(0, BlindSide.NONE, 1, 7, 0, 60)
                + ", " + x.carries(0, -2, 1, 7, 0, 60) + ", " + x.carries(0, -3, 1, 7, 0, 60));
        System.out.println("odds that he is right: " + x.odds(0, 1, 7, 0, 60, true, true) + "/" + x.odds(0, 1, 7, 0, 60, true, false));

        x.trial(1, 7, 0, 60, 2, 2, false, 3);
        x.trial(0, 9, 2, 90, 1, 1, false, 5);
        System.out.println("trials: " + x.trial(0, 0, 0, 99, 0, 0, true, 9));
        System.out.println("chance: " + x.chance(BlindSide.NONE) + " of 10 to the 12");
        System.out.println("kinds: " + x.kind(0, 0) + ", " + x.kind(0, 1) + ", " + x.kind(0, 2));

        put(x, "show face 7 0 60; times 3 [show cross 8 4 bright * 30;];");
        System.out.println("statements of the plan: " + x.plan() + ", showings: " + x.has(9));
        System.out.println("trials that came by a run: " + x.run(0, 1) + ", all: " + x.has(2));

        put(x, "way eye knows 5 when row < 12345;");
        System.out.println("refused: " + x.law(1) + ", fault " + x.fault(0) + " at " + x.fault(1));
    }

    /** A text of at most 900 bytes goes on the tape: twenty bytes a call, then what is behind the text goes. */
    private static void put(BlindSide x, String text) {
        x.end(0);
        for (int from = 0; from < text.length(); from += 20) {
            x.feed(four(text, from), four(text, from + 4), four(text, from + 8), four(text, from + 12), four(text, from + 16));
        }
        x.end(text.length());
    }

    private static int four(String text, int from) {
        int number = 0;
        for (int k = from; k < from + 4; k++) {
            number = number << 8 | (k < text.length() ? text.charAt(k) : ' ');
        }
        return number;
    }
}
