/** The edges of images: promises 44 to 46. */
public final class ImageEdgesTest {
    private static final Due DUE = new Due();
    private static final int LEAST = Integer.MIN_VALUE;
    private static final int MOST = Integer.MAX_VALUE;
    private static final String THINGS = "thing a 2; thing b 6;";

    public static void main(String[] args) {
        bytes();
        written();
        octets();
        lastByte();
        telling();
        refused();
        bytesThatCannotBe();
        howMany();
        thingsThatCannotBe();
        DUE.end();
    }

    private static String checked(int... ahead) {
        StringBuilder text = new StringBuilder();
        int c = 5;
        for (int octet : ahead) {
            c = (3 * c + octet) % 233;
            text.append((char) octet);
        }
        return text.append((char) c).toString();
    }

    private static boolean on(BlindSide x, String image) {
        Due.feed(x, image);
        return x.on();
    }

    private static void bytes() {
        DUE.by(44, "AN IMAGE of TRIALS: a byte for how many; for each THING, SQUARE (12 row + column), BRIGHT, sort, guess, said (0, 1) and twice MOVED (0, 1) together, sure, the sort told by the VOICE (255: none); last a byte: all ahead from 5 on, c = (3 c + it) mod 233.");
        BlindSide x = Due.with(THINGS);
        x.trial(0, 0, 0, 0, 0, 0, false, 0);
        x.trial(1, 11, 7, 99, 5, 4, true, 9);
        x.voice(1, 3);
        x.trial(1, 10, 7, 98, 2, 1, false, 8);
        x.moved(2, 1, -1);
        x.voice(2, 0);
        x.trial(0, 11, 0, 1, 1, 0, true, 7);
        x.moved(3, -11, 1);
        String want = checked(4, 0, 0, 0, 0, 0, 0, 0, 255, 1, 95, 99, 5, 4, 1, 9, 3, 1, 83, 98, 2, 1, 2, 8, 0, 0, 12, 1, 1, 0, 3, 7, 255);
        DUE.is("how many bytes", x.image(), want.length());
        for (int k = 0; k < want.length(); k++) {
            DUE.is("octet " + k, x.octet(k), want.charAt(k));
        }
    }

    private static void written() {
        DUE.by(44, "AN IMAGE is written: how many bytes.");
        BlindSide x = Due.with(THINGS);
        DUE.is("of none", x.image(), 2);
        for (int n = 1; n <= 40; n++) {
            x.trial(0, 0, 0, 0, 0, 0, false, 0);
            DUE.is("of " + n, x.image(), 2 + 8 * n);
        }
        x.trial(0, 0, 0, 0, 0, 0, false, 0);
        DUE.is("of 40 yet", x.image(), 322);
        DUE.is("without a field", new BlindSide().image(), 2);
        DUE.changes("image", y -> {
            y.undo();
            y.image();
        }, "has", "trial 2", "image");
    }

    private static void octets() {
        DUE.by(45, "Byte k of the latest image(); NONE when there is none such.");
        BlindSide x = Due.with(THINGS);
        DUE.is("ahead of any", x.octet(0), -1);
        x.trial(1, 0, 0, 0, 0, 0, false, 0);
        DUE.is("ahead of any yet", x.octet(0), -1);
        x.image();
        DUE.is("the first", x.octet(0), 1);
        DUE.is("the last", x.octet(9) >= 0, true);
        DUE.is("behind it", x.octet(10), -1);
        x.undo();
        DUE.is("of the latest image", x.octet(0), 1);
        x.image();
        DUE.is("of the latest image", x.octet(0), 0);
        DUE.is("the last of two", x.octet(1), 15);
        DUE.is("behind it, where there was one", x.octet(2), -1);
        BlindSide full = Due.with(THINGS);
        for (int n = 0; n < 40; n++) {
            full.trial(0, 0, 0, 0, 0, 0, false, 0);
        }
        full.image();
        DUE.is("the last but one of 322", full.octet(320), 255);
        DUE.is("the last of 322", full.octet(321) >= 0, true);
        DUE.is("behind it", full.octet(322), -1);
        for (int k : new int[] {-1, 26, LEAST, MOST}) {
            DUE.leaves("octet(" + k + ")", -1, y -> y.octet(k));
        }
    }

    private static void lastByte() {
        DUE.by(46, "last a byte: all ahead from 5 on, c = (3 c + it) mod 233.");
        boolean[] met = new boolean[256];
        for (int square = 0; square < 96; square++) {
            BlindSide x = Due.with(THINGS);
            String good = checked(1, 0, square, 77, 0, 0, 0, 0, 255);
            met[good.charAt(9)] = true;
            DUE.is("square " + square, on(x, good), true);
            DUE.is("one more", on(x, good.substring(0, 9) + (char) (good.charAt(9) + 1)), false);
            DUE.is("one less", on(x, good.substring(0, 9) + (char) (good.charAt(9) - 1 & 255)), false);
            if (good.charAt(9) <= 22) {
                DUE.is("233 more", on(x, good.substring(0, 9) + (char) (good.charAt(9) + 233)), false);
            }
        }
        // the least and the greatest that it can be
        DUE.is("0", checkedBy(0), true);
        DUE.is("232", checkedBy(232), true);
    }

    /** Whether an image whose last byte is told is taken. */
    private static boolean checkedBy(int last) {
        for (int k = 0; k < 9600; k++) {
            String image = checked(1, 0, k % 96, k / 96, 0, 0, 0, 0, 255);
            if (image.charAt(9) == last) {
                return on(Due.with(THINGS), image);
            }
        }
        return false;
    }

    private static void telling() {
        DUE.by(46, "The tape (it goes, refused or not) is AN IMAGE: true, TRIALS are as it tells; false when it is none (all stays).");
        BlindSide x = Due.with(THINGS);
        x.trial(0, 3, 3, 3, 1, 1, true, 3);
        x.trial(0, 4, 4, 4, 1, 1, true, 4);
        DUE.is("two", on(x, checked(2, 1, 13, 60, 2, 4, 3, 8, 5, 0, 95, 99, 1, 0, 0, 9, 255)), true);
        int[][] want = {{1, 1, 1, 60, 2, 4, 1, 8, 0, 0, 1, 5}, {0, 11, 7, 99, 1, 0, 0, 9, 0, 0, 0, -1}};
        for (int i = 0; i < 2; i++) {
            for (int what = 0; what < 12; what++) {
                DUE.is("tried(" + i + ", " + what + ")", x.tried(i, what), want[i][what]);
            }
        }
        DUE.is("the tape is gone", x.end(1), false);
        DUE.is("as many as it tells", x.has(2), 2);
        DUE.is("one of them has moved", x.moved(0, 1, 0), false);
        DUE.is("the other has not", x.moved(1, -1, 0), true);
        DUE.is("a voice told in one", x.voice(0, 1), false);
        DUE.is("none in the other", x.voice(1, 1), true);
        DUE.is("said, not moved", on(x, checked(1, 1, 13, 60, 2, 4, 1, 0, 255)), true);
        DUE.is("said", x.tried(0, 6), 1);
        DUE.is("not moved", x.tried(0, 10), 0);
        DUE.is("moved, not said", on(x, checked(1, 1, 13, 60, 2, 4, 2, 0, 255)), true);
        DUE.is("not said", x.tried(0, 6), 0);
        DUE.is("moved", x.tried(0, 10), 1);
        DUE.is("none", on(x, checked(0)), true);
        DUE.is("none", x.has(2), 0);
        DUE.is("none, without a field", on(new BlindSide(), checked(0)), true);
        BlindSide full = Full.made();
        DUE.is("of a full one", on(full, checked(0)), true);
        DUE.is("its laws stay", full.has(1), 3);
        DUE.is("its plan stays", full.has(9), 3);
        DUE.is("its chairs stay", full.has(3), 2);
        DUE.is("the latest image stays", full.octet(0), 3);
        DUE.is("its fault stays", full.fault(1), 5);
    }

    private static void refused() {
        DUE.by(46, "false when it is none (all stays).");
        String good = checked(1, 1, 43, 60, 2, 3, 3, 3, 2);
        DUE.is("this one is one", on(Full.made(), good), true);
        for (int length = 0; length < good.length(); length++) {
            String cut = good.substring(0, length);
            DUE.leavesAllButTape("on(), the first " + length, 0, cut, x -> x.on() ? 1 : 0);
        }
        DUE.leavesAllButTape("on(), one more", 0, good + "\0", x -> x.on() ? 1 : 0);
        DUE.leavesAllButTape("on(), 900", 0, good + " ".repeat(890), x -> x.on() ? 1 : 0);
        DUE.leavesAllButTape("on(), a text", 0, Due.LAW, x -> x.on() ? 1 : 0);
        DUE.leavesAllButTape("on(), 2 told, 1 there", 0, checked(2, 1, 43, 60, 2, 3, 3, 3, 2), x -> x.on() ? 1 : 0);
        DUE.leavesAllButTape("on(), 0 told, 1 there", 0, checked(0, 1, 43, 60, 2, 3, 3, 3, 2), x -> x.on() ? 1 : 0);
        DUE.leavesAllButTape("on(), 15 behind 1", 0, checked(1), x -> x.on() ? 1 : 0);
    }

    private static void bytesThatCannotBe() {
        DUE.by(46, "It is taken, if it is such, and each one can be.");
        int[] least = {1, 0, 0, 0, 0, 0, 0, 0, 0};
        int[] greatest = {1, 1, 95, 99, 3, 3, 3, 9, 3};
        for (int k = 1; k < 9; k++) {
            int[] octets = least.clone();
            octets[k] = greatest[k];
            octets[1] = 1;
            DUE.is("the greatest byte " + k, on(Full.made(), checked(octets)), true);
            octets[k] = k == 1 ? 2 : greatest[k] + 1;
            String above = checked(octets);
            DUE.leavesAllButTape("on(), byte " + k + " one above", 0, above, x -> x.on() ? 1 : 0);
            octets[k] = k == 8 ? 254 : 255;
            String far = checked(octets);
            DUE.leavesAllButTape("on(), byte " + k + " far above", 0, far, x -> x.on() ? 1 : 0);
        }
        DUE.is("the least", on(Full.made(), checked(least)), true);
        DUE.is("the greatest", on(Full.made(), checked(greatest)), true);
        for (int k : new int[] {4, 5, 8}) {
            int[] octets = least.clone();
            octets[k] = 1;
            DUE.is("the last of two sorts, byte " + k, on(Full.made(), checked(octets)), true);
            octets[k] = 2;
            String above = checked(octets);
            DUE.leavesAllButTape("on(), a third sort of two, byte " + k, 0, above, x -> x.on() ? 1 : 0);
        }
        DUE.leavesAllButTape("on(), the last cannot be", 0, checked(2, 1, 43, 60, 2, 3, 3, 3, 2, 1, 96, 60, 2, 3, 3, 3, 2), x -> x.on() ? 1 : 0);
        DUE.leavesAllButTape("on(), the first cannot be", 0, checked(2, 1, 96, 60, 2, 3, 3, 3, 2, 1, 43, 60, 2, 3, 3, 3, 2), x -> x.on() ? 1 : 0);
    }

    private static void howMany() {
        DUE.by(46, "TRIALS (40 at most), numbered from 0 on:");
        for (int many : new int[] {39, 40, 41, 112}) {
            int[] octets = new int[1 + 8 * many];
            octets[0] = many;
            for (int i = 0; i < many; i++) {
                octets[8 * i + 2] = i % 96;
                octets[8 * i + 8] = 255;
            }
            String image = checked(octets);
            if (many <= 40) {
                BlindSide x = Full.made();
                DUE.is(many + " of them", on(x, image), true);
                DUE.is(many + " of them", x.has(2), many);
                DUE.is("the last", x.tried(many - 1, 1), (many - 1) % 12);
                DUE.is("the last", x.tried(many - 1, 2), (many - 1) / 12);
                DUE.is("room for more", x.trial(0, 0, 0, 0, 0, 0, false, 0), many < 40 ? 40 : -1);
            } else {
                DUE.leavesAllButTape("on(), " + many + " of them", 0, image, x -> x.on() ? 1 : 0);
            }
        }
    }

    private static void thingsThatCannotBe() {
        DUE.by(46, "and each one can be.");
        String first = checked(1, 0, 0, 0, 0, 0, 0, 0, 255);
        String fifth = checked(1, 4, 0, 0, 5, 5, 0, 0, 5);
        String sixth = checked(1, 5, 0, 0, 0, 0, 0, 0, 255);
        DUE.is("the first, without things", on(new BlindSide(), first), false);
        BlindSide five = Due.with("thing a 2;thing b 2;thing c 2;thing d 2;thing e 6;");
        DUE.is("the first", on(five, first), true);
        DUE.is("the fifth", on(five, fifth), true);
        DUE.is("a sixth", on(five, sixth), false);
        DUE.is("the fifth stays", five.tried(0, 0), 4);
        Due.field(five, "thing a 2;");
        DUE.is("the fifth, of one", on(five, fifth), false);
        DUE.is("the first, of one", on(five, first), true);
    }
}
