/** Promises 44 to 46: image, octet, on. */
public final class ImageTest {
    private static final Due DUE = new Due();
    private static final String THINGS = "thing a 2; thing b 6; sight 9 when column = 0;";

    public static void main(String[] args) {
        written();
        taken();
        refused();
        whatCannotBe();
        full();
        DUE.end();
    }

    private static String checked(int... ahead) {
        StringBuilder text = new StringBuilder();
        int c = 5;
        for (int octet : ahead) {
            c = (3 * c + octet) % 233;
            text.append((char) octet);
        }
        return text.append((char) c).toString();
    }

    private static String imageOf(BlindSide x) {
        StringBuilder text = new StringBuilder();
        int length = x.image();
        for (int k = 0; k < length; k++) {
            text.append((char) x.octet(k));
        }
        return text.toString();
    }

    private static boolean on(BlindSide x, String image) {
        Due.feed(x, image);
        return x.on();
    }

    private static void written() {
        BlindSide x = Due.with(THINGS);
        DUE.is("45: ahead of any", x.octet(0), -1);
        DUE.is("44: without trials", x.image(), 2);
        DUE.is("45: without trials", x.octet(0), 0);
        DUE.is("45: without trials", x.octet(1), 15);
        DUE.is("45: behind it", x.octet(2), -1);
        DUE.is("45: below 0", x.octet(-1), -1);
        x.trial(1, 7, 3, 60, 2, 4, true, 3);
        DUE.is("45: of the latest image", x.octet(0), 0);
        x.trial(0, 2, 1, 99, 1, 0, false, 9);
        x.voice(1, 1);
        x.moved(1, -1, 6);
        x.trial(1, 0, 0, 0, 5, 5, true, 0);
        x.moved(2, 1, 0);
        DUE.is("44: three", x.image(), 26);
        String want = checked(3, 1, 43, 60, 2, 4, 1, 3, 255, 0, 85, 99, 1, 0, 2, 9, 1, 1, 1, 0, 5, 5, 3, 0, 255);
        for (int k = 0; k < want.length(); k++) {
            DUE.is("45: octet " + k, x.octet(k), want.charAt(k));
        }
        DUE.is("45: behind it", x.octet(26), -1);
        x.undo();
        Due.field(x, "");
        DUE.is("45: it stays", x.octet(0), 3);
    }

    private static void taken() {
        BlindSide x = Due.with(THINGS);
        x.trial(0, 0, 0, 1, 0, 0, false, 0);
        x.trial(0, 0, 0, 1, 0, 0, false, 0);
        DUE.is("46: taken", on(x, checked(1, 1, 43, 60, 2, 4, 3, 3, 5)), true);
        DUE.is("46: the tape is gone", x.end(1), false);
        int[] want = {1, 7, 3, 60, 2, 4, 1, 3, 0, 1, 1, 5};
        for (int what = 0; what < want.length; what++) {
            DUE.is("46: tried(0, " + what + ")", x.tried(0, what), want[what]);
        }
        DUE.is("46: as many as it tells", x.has(2), 1);
        DUE.is("46: moved already", x.moved(0, 1, 0), false);
        DUE.is("46: a voice already", x.voice(0, 0), false);
        DUE.is("46: neither", on(x, checked(1, 1, 43, 60, 2, 4, 0, 3, 255)), true);
        DUE.is("46: not said", x.tried(0, 6), 0);
        DUE.is("46: not moved", x.tried(0, 10), 0);
        DUE.is("46: no voice", x.tried(0, 11), -1);
        DUE.is("46: said", on(x, checked(1, 1, 43, 60, 2, 4, 1, 3, 255)), true);
        DUE.is("46: said", x.tried(0, 6), 1);
        DUE.is("46: said, not moved", x.tried(0, 10), 0);
        DUE.is("46: moved", on(x, checked(1, 1, 43, 60, 2, 4, 2, 3, 255)), true);
        DUE.is("46: moved, not said", x.tried(0, 6), 0);
        DUE.is("46: moved", x.tried(0, 10), 1);
        DUE.is("46: without trials", on(x, checked(0)), true);
        DUE.is("46: without trials", x.has(2), 0);
        DUE.is("46: without things", on(new BlindSide(), checked(0)), true);
        DUE.is("46: the greatest", on(x, checked(1, 1, 95, 99, 5, 5, 3, 9, 5)), true);
    }

    private static void refused() {
        BlindSide x = Due.with(THINGS);
        x.trial(0, 3, 0, 1, 0, 0, false, 0);
        String good = checked(1, 1, 43, 60, 2, 4, 3, 3, 5);
        DUE.is("46: an empty tape", on(x, ""), false);
        DUE.is("46: one byte", on(x, "\0"), false);
        DUE.is("46: too short", on(x, good.substring(0, 9)), false);
        DUE.is("46: too long", on(x, good + " "), false);
        DUE.is("46: another last byte", on(x, good.substring(0, 9) + (char) (good.charAt(9) + 1)), false);
        DUE.is("46: 233 more", on(x, "\0" + (char) (15 + 233)), false);
        DUE.is("46: one more told", on(x, checked(2, 1, 43, 60, 2, 4, 3, 3, 5)), false);
        DUE.is("46: the tape is gone", x.end(1), false);
        DUE.is("46: all stays", x.has(2), 1);
        DUE.is("46: all stays", x.tried(0, 1), 3);
        DUE.is("46: good", on(x, good), true);
    }

    private static void whatCannotBe() {
        int[] good = {1, 0, 43, 60, 1, 0, 3, 3, 1};
        int[] bad = {0, 2, 96, 100, 2, 2, 4, 10, 2};
        for (int k = 1; k < good.length; k++) {
            BlindSide x = Due.with(THINGS);
            int[] octets = good.clone();
            DUE.is("46: good", on(x, checked(octets)), true);
            octets[k] = bad[k];
            DUE.is("46: byte " + k + " cannot be", on(x, checked(octets)), false);
            octets[k] = 254;
            DUE.is("46: byte " + k + " cannot be", on(x, checked(octets)), false);
        }
        BlindSide x = Due.with(THINGS);
        DUE.is("46: the second cannot be", on(x, checked(2, 0, 43, 60, 1, 0, 3, 3, 1, 0, 96, 60, 1, 0, 3, 3, 1)), false);
        DUE.is("46: nothing came", x.has(2), 0);
        DUE.is("46: no such things", on(new BlindSide(), checked(good)), false);
        DUE.is("46: no such thing", on(x, checked(1, 2, 0, 0, 0, 0, 0, 0, 255)), false);
        DUE.is("46: no such things", on(new BlindSide(), checked(1, 0, 0, 0, 0, 0, 0, 0, 255)), false);
    }

    private static void full() {
        BlindSide x = Due.with(THINGS);
        int[] octets = new int[1 + 8 * 40];
        int[] more = new int[1 + 8 * 41];
        octets[0] = 40;
        more[0] = 41;
        for (int i = 0; i < 41; i++) {
            for (int k = 1; k <= 8; k++) {
                int octet = k == 2 ? i : k == 8 ? 255 : 0;
                more[8 * i + k] = octet;
                if (i < 40) {
                    octets[8 * i + k] = octet;
                }
            }
        }
        DUE.is("46: 41", on(x, checked(more)), false);
        DUE.is("46: 40", on(x, checked(octets)), true);
        DUE.is("46: 40", x.has(2), 40);
        DUE.is("46: the last", x.tried(39, 2), 3);
        DUE.is("44: 40", x.image(), 322);
        DUE.is("44: the same again", imageOf(x).equals(checked(octets)), true);
        DUE.is("19: no room", x.trial(0, 0, 0, 0, 0, 0, false, 0), -1);
    }
}
