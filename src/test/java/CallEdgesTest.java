/** The edges of a new object, the tape, the calls that take texts, and what tells of them: promises 1 to 9. */
public final class CallEdgesTest {
    private static final Due DUE = new Due();
    private static final int LEAST = Integer.MIN_VALUE;
    private static final int MOST = Integer.MAX_VALUE;

    public static void main(String[] args) {
        oftenUsed();
        newObject();
        feeding();
        feedingBytes();
        ending();
        fieldTaken();
        lawTaken();
        lawsByNumber();
        planTaken();
        faults();
        having();
        havingShowings();
        letters();
        DUE.end();
    }

    private static void oftenUsed() {
        DUE.by(1, "An object is used for at most 512 calls after it has been made; what later calls answer is free.");
        BlindSide x = new BlindSide();
        for (int call = 1; call < 512; call++) {
            DUE.is("call " + call, x.undo(), -1);
        }
        DUE.is("call 512", x.chair(0, 3, true), 1);
        DUE.by(1, "`NONE = -1`: There is none; it is refused.");
        DUE.is("NONE", BlindSide.NONE, -1);
    }

    private static void newObject() {
        DUE.by(1, "An empty FIELD, no LAWS, TRIALS, CHAIRS.");
        Full.made();
        BlindSide x = new BlindSide();
        int[] has = {0, 0, 0, 0, 0, 95, 0, 0, 0, 0};
        for (int what = 0; what < has.length; what++) {
            DUE.is("has " + what, x.has(what), has[what]);
        }
        for (int row = 0; row < 8; row++) {
            for (int column = 0; column < 12; column++) {
                DUE.is("sight", x.sight(column, row), 0);
            }
        }
        DUE.is("no piece", x.pieceHas(0, 0), -1);
        DUE.is("no light", x.light(3, 3, 99), 0);
        DUE.is("no thing", x.letter(-1, 0, 0), -1);
        for (int law = 0; law < 3; law++) {
            DUE.is("no law " + law, x.weight(law), -1);
        }
        DUE.is("no law", x.likely(), -1);
        DUE.is("no trial", x.undo(), -1);
        DUE.is("no trial", x.count(-1, 0, false), 0);
        DUE.is("no chair", x.walks(0), 49303);
        DUE.is("no plan", x.run(0, 0), -1);
        DUE.is("no image", x.octet(0), -1);
        DUE.is("nothing on the tape", x.end(1), false);
        DUE.is("an empty text", x.field(), 0);
    }

    /** An object with as many bytes on the tape, which tell a LAW of one line. */
    private static BlindSide fedWith(int length) {
        BlindSide x = Due.with("thing a 2;");
        Due.feed(x, Full.TAPE + " ".repeat(length - Full.TAPE.length()));
        return x;
    }

    private static void isFedWith(BlindSide x, int length) {
        DUE.is("one more than fed", x.end(length + 1), false);
        DUE.is("as many as fed", x.end(length), true);
        DUE.is("what was fed", x.law(0), 1);
        DUE.is("what was fed", x.carries(0, -3, 0, 0, 0, 1), Full.TAPE_LINE);
    }

    private static void feeding() {
        DUE.by(2, "Twenty bytes come behind those on the tape, of each number the highest first: how many there are; NONE, doing nothing, if there would be more than 900.");
        BlindSide x = new BlindSide();
        DUE.is("on an empty tape", x.feed(0, 0, 0, 0, 0), 20);
        DUE.is("behind 20", x.feed(0, 0, 0, 0, 0), 40);
        x.end(33);
        DUE.is("behind 33", x.feed(0, 0, 0, 0, 0), 53);
        BlindSide most = fedWith(880);
        DUE.is("behind 880", most.feed(0x20202020, 0x20202020, 0x20202020, 0x20202020, 0x20202020), 900);
        DUE.is("behind 900", most.feed(0, 0, 0, 0, 0), -1);
        isFedWith(most, 900);
        for (int length : new int[] {881, 882, 899, 900}) {
            BlindSide full = fedWith(length);
            DUE.is("behind " + length, full.feed(LEAST, MOST, -1, 0, 1), -1);
            isFedWith(full, length);
        }
        DUE.is("an empty tape again", most.feed(0, 0, 0, 0, 0), 20);
        String[] takes = {"field", "law", "law -1", "plan", "on"};
        for (int k = 0; k < takes.length; k++) {
            BlindSide full = fedWith(900);
            take(full, k);
            DUE.is("behind " + takes[k], full.feed(0, 0, 0, 0, 0), 20);
        }
        DUE.changes("feed", y -> y.feed(1, 2, 3, 4, 5));
    }

    private static void take(BlindSide x, int way) {
        if (way == 0) {
            x.field();
        } else if (way == 1) {
            x.law(0);
        } else if (way == 2) {
            x.law(-1);
        } else if (way == 3) {
            x.plan();
        } else {
            x.on();
        }
    }

    private static void feedingBytes() {
        DUE.by(2, "of each number the highest first:");
        BlindSide x = new BlindSide();
        x.feed(0x64697363, 0x20332034, 0x3b646973, 0x63203520, 0x363b2020);
        DUE.is("five numbers in their order", x.field(), 2);
        DUE.is("five numbers in their order", x.has(5), 77);
        // an image: 1 TRIAL; thing 0, square 1, bright 2, sort 1, guess 0, said and moved, sure 4, no voice
        Due.field(x, "thing a 2;");
        int check = 5;
        for (int octet : new int[] {1, 0, 1, 2, 1, 0, 3, 4, 255}) {
            check = (3 * check + octet) % 233;
        }
        x.feed(0x01000102, 0x01000304, 0xff000000 | check << 16, -1, LEAST);
        x.end(10);
        DUE.is("bytes above 127, numbers below 0", x.on(), true);
        DUE.is("a byte of 255", x.tried(0, 11), -1);
        DUE.is("the highest byte of the second", x.tried(0, 4), 1);
        x.feed(0, 0, 0, 0, 0x00ff80ff);
        for (int length = 19; length > 1; length--) {
            x.end(length);
        }
        DUE.is("bytes 0 0 are no image", x.on(), false);
        x.feed(0x800f0000, 0, 0, 0, 0);
        x.end(2);
        DUE.is("a byte of 128 is not 0", x.on(), false);
        x.feed(0x000f0000, 0, 0, 0, 0);
        x.end(2);
        DUE.is("bytes 0 15 are one", x.on(), true);
    }

    private static void ending() {
        DUE.by(3, "The tape has its first n bytes alone: true; false, doing nothing, if it has not so many, or n is below 0.");
        BlindSide x = new BlindSide();
        DUE.is("0 of 0", x.end(0), true);
        DUE.is("1 of 0", x.end(1), false);
        DUE.is("-1 of 0", x.end(-1), false);
        for (int n : new int[] {-1, LEAST, 901, 900, 101, MOST}) {
            BlindSide fed = fedWith(100);
            DUE.is(n + " of 100", fed.end(n), false);
            isFedWith(fed, 100);
        }
        for (int n : new int[] {100, 99, 16}) {
            BlindSide fed = fedWith(100);
            DUE.is(n + " of 100", fed.end(n), true);
            isFedWith(fed, n);
        }
        BlindSide fed = fedWith(900);
        DUE.is("900 of 900", fed.end(900), true);
        DUE.is("901 of 900", fed.end(901), false);
        DUE.is("1 of 900", fed.end(1), true);
        DUE.is("2 of 1", fed.end(2), false);
        DUE.is("0 of 1", fed.end(0), true);
        DUE.is("1 of 0", fed.end(1), false);
        DUE.is("fed behind the end", fed.feed(0, 0, 0, 0, 0), 20);
        DUE.changes("end", y -> y.end(3));
        DUE.leaves("end(17)", y -> y.end(17));
        DUE.leaves("end(-1)", y -> y.end(-1));
    }

    private static void fieldTaken() {
        DUE.by(4, "The tape (it goes, refused or not) is THE FIELD: how many STATEMENTS; NONE with a FAULT (all else stays).");
        DUE.leavesAllButTape("field()", -1, "disc 12 0;", x -> x.field());
        DUE.leavesAllButTape("field()", -1, "thing a 2;thing b 2;sight 1 when all;disc 0 0", x -> x.field());
        DUE.leavesAllButTape("field()", -1, "disc 1 1;".repeat(41), x -> x.field());
        DUE.leavesAllButTape("field()", -1, Due.LAW, x -> x.field());
        BlindSide x = new BlindSide();
        DUE.is("an empty tape", x.field(), 0);
        DUE.is("a text", Due.field(x, "thing a 2;"), 1);
        DUE.is("the tape is gone", x.end(1), false);
        DUE.is("an empty tape again", x.field(), 0);
        DUE.is("it is the field", x.has(0), 0);
        DUE.by(4, "Without one there are no TRIALS.");
        DUE.changes("field", y -> Due.field(y, Due.FIELD), "fault", "has", "trial 0", "trial 1", "trial 2");
        BlindSide full = Full.made();
        DUE.is("trials ahead", full.has(2), 3);
        Due.field(full, "disc 12 0;");
        DUE.is("with a fault they stay", full.has(2), 3);
        Due.field(full, Due.FIELD);
        DUE.is("without one they go", full.has(2), 0);
        DUE.is("none to undo", full.undo(), -1);
        DUE.is("the first of new ones", full.trial(0, 0, 0, 0, 0, 0, false, 0), 1);
        BlindSide filled = Due.with("thing a 2;");
        for (int i = 0; i < 40; i++) {
            filled.trial(0, 0, 0, 0, 0, 0, false, 0);
        }
        filled.field();
        DUE.is("an empty text, too", filled.has(2), 0);
    }

    private static void lawTaken() {
        DUE.by(5, "The tape (it goes, refused or not) is LAW k (in place of that which is there): how many STATEMENTS; NONE with a FAULT (all else stays);");
        for (int k = 0; k < 3; k++) {
            int law = k;
            DUE.leavesAllButTape("law(" + k + ")", -1, "way a knows 1 when all;way a", x -> x.law(law));
            DUE.leavesAllButTape("law(" + k + ")", -1, "line 1 when all;".repeat(41), x -> x.law(law));
            DUE.leavesAllButTape("law(" + k + ")", -1, Due.FIELD, x -> x.law(law));
            DUE.changes("law", x -> Due.law(x, law, "way zz knows 3 when all;way y blind 1 when all;"), "fault", "has", "law " + k);
            BlindSide x = Full.made();
            DUE.is("in place of that which is there", Due.law(x, k, ""), 0);
            DUE.is("still three laws", x.has(1), 3);
            DUE.is("no way of the old one", x.has(6 + k), 0);
            DUE.is("no line of the old one", x.carries(k, -3, 0, 0, 0, 5), 101);
            DUE.is("the tape is gone", x.end(1), false);
        }
    }

    private static void lawsByNumber() {
        DUE.by(5, "-2 (no FAULT is told; the tape goes) when there is no such number.");
        for (int k : new int[] {-1, 3, LEAST, MOST}) {
            DUE.leavesAllButTape("law(" + k + ")", -2, "line 9 when all;", x -> x.law(k));
            DUE.leavesAllButTape("law(" + k + ")", -2, "?", x -> x.law(k));
            BlindSide x = Full.made();
            DUE.is("law " + k, Due.law(x, k, "?"), -2);
            DUE.is("the fault ahead of it", x.fault(0), 2);
            DUE.is("its place", x.fault(1), 5);
            DUE.is("no tape", x.law(0), 0);
            DUE.is("law " + k + " of a new one", new BlindSide().law(k), -2);
        }
        BlindSide x = new BlindSide();
        DUE.is("law -1", Due.law(x, -1, "?"), -2);
        DUE.is("ahead of any", x.fault(0), 0);
        DUE.is("ahead of any", x.fault(1), -1);
    }

    private static void planTaken() {
        DUE.by(6, "The tape (it goes, refused or not) is THE PLAN: how many STATEMENTS; NONE with a FAULT (all else stays).");
        DUE.leavesAllButTape("plan()", -1, "show face 0 0 1;show fac", x -> x.plan());
        DUE.leavesAllButTape("plan()", -1, "times 1[];".repeat(41), x -> x.plan());
        DUE.leavesAllButTape("plan()", -1, "times 2[show face 0 0 1;]", x -> x.plan());
        DUE.changes("plan", x -> Due.plan(x, "show face 0 0 1;"), "fault", "has");
        BlindSide x = Full.made();
        DUE.is("in brackets, too", Due.plan(x, "times 2[times 3[show face 0 0 1;];];"), 3);
        DUE.is("in place of the one ahead", x.has(9), 6);
        DUE.is("the tape is gone", x.end(1), false);
        DUE.is("an empty one", x.plan(), 0);
        DUE.is("no showings", x.has(9), 0);
        DUE.is("there is a plan", x.run(0, 1), 0);
        BlindSide refused = Full.made();
        Due.plan(refused, "show face 0 0 1;show face 12");
        DUE.is("the plan ahead of it runs", refused.run(0, 1), 3);
        DUE.is("the plan ahead of it runs", refused.tried(3, 3), 99);
        DUE.by(6, "field() takes it.");
        BlindSide taken = Full.made();
        Due.field(taken, "disc 12 0;");
        DUE.is("with a fault it stays", taken.has(9), 3);
        DUE.is("with a fault it stays", taken.run(0, 1), 3);
        Due.field(taken, Due.FIELD);
        DUE.is("without one it goes", taken.has(9), 0);
        DUE.is("without one it goes", taken.run(0, 1), -1);
        Due.plan(taken, "");
        DUE.is("a new one", taken.run(0, 1), 0);
        taken.field();
        DUE.is("it goes by an empty text", taken.run(0, 1), -1);
    }

    private static void fault(BlindSide x, int fault, int place) {
        DUE.is("its fault", x.fault(0), fault);
        DUE.is("its place", x.fault(1), place);
    }

    private static void faults() {
        DUE.by(7, "Of the latest field(), plan() or law() that was not -2: its FAULT (0; 0 without, and ahead of any), its place (1; NONE without). NONE for another what.");
        BlindSide x = new BlindSide();
        fault(x, 0, -1);
        for (int what : new int[] {-1, 2, LEAST, MOST}) {
            DUE.is("fault(" + what + ")", x.fault(what), -1);
        }
        Due.field(x, "?");
        fault(x, 1, 0);
        Due.law(x, 3, "");
        fault(x, 1, 0);
        Due.plan(x, "show a 0 0 1;");
        fault(x, 3, 5);
        Due.law(x, 2, "line 1 when all");
        fault(x, 1, 15);
        Due.law(x, -1, "?");
        fault(x, 1, 15);
        x.on();
        fault(x, 1, 15);
        x.law(0);
        fault(x, 0, -1);
        Due.plan(x, "times 0");
        fault(x, 2, 6);
        x.plan();
        fault(x, 0, -1);
        Due.field(x, "(".repeat(900));
        fault(x, 1, 0);
        Due.field(x, " ".repeat(900));
        fault(x, 0, -1);
        Due.law(x, 0, "line 1 when all" + " ".repeat(885));
        fault(x, 1, 900);
        x.field();
        fault(x, 0, -1);
        for (int what : new int[] {-1, 2, LEAST, MOST}) {
            DUE.leaves("fault(" + what + ")", -1, y -> y.fault(what));
        }
    }

    private static void having() {
        DUE.by(8, "How many there are: 0 THINGS, 1 LAWS, 2 TRIALS, 3 CHAIRS, 4 SQUARES with SIGHT, 5 the DISC (12 row + column), 6 WAYS of LAW 0, 7 of LAW 1, 8 of LAW 2 (0 without it), 9 SHOWINGS of THE PLAN");
        int[] full = {2, 3, 3, 2, 50, 56, 3, 1, 1, 3};
        for (int what = 0; what < full.length; what++) {
            DUE.is("has(" + what + ")", Full.made().has(what), full[what]);
        }
        BlindSide x = Due.with("disc 0 7;sight 1 when all;");
        DUE.is("all squares but the disc", x.has(4), 95);
        DUE.is("the disc", x.has(5), 84);
        DUE.is("without sight", Due.with("sight 0 when all;").has(4), 0);
        DUE.is("sight below 0", Due.with("sight 0 - 1 when all;").has(4), 0);
        Due.law(x, 1, "way a knows 1 when all;");
        DUE.is("law 0 is not there", x.has(6), 0);
        DUE.is("law 1", x.has(7), 1);
        DUE.is("law 2 is not there", x.has(8), 0);
        DUE.is("one law", x.has(1), 1);
        for (int k = 0; k < 96; k++) {
            x.chair(k % 12, k / 12, true);
        }
        DUE.is("a chair on each square", x.has(3), 96);
        DUE.by(8, "NONE for others.");
        for (int what : new int[] {-1, 10, LEAST, MOST}) {
            DUE.leaves("has(" + what + ")", -1, y -> y.has(what));
        }
    }

    private static void havingShowings() {
        DUE.by(8, "(10 to the 6 at most; 0 without one).");
        BlindSide x = Due.with("thing a 2;");
        DUE.is("without one", x.has(9), 0);
        // 9 to the 6 + 7 times 9 to the 5 + 8 times 9 to the 4 + 3 times 9 to the 3 + 6 times 81 + 6 times 9
        String show = "show a 0 0 0;";
        String below = "times 9[".repeat(6) + show + "];times 7[" + show + "];];times 8[" + show + "];];times 3[" + show
                + "];];times 6[" + show + "];];times 6[" + show + "];];";
        DUE.is("statements", Due.plan(x, below), 17);
        DUE.is("one below it", x.has(9), 999999);
        Due.plan(x, below + show);
        DUE.is("just so many", x.has(9), 1000000);
        Due.plan(x, show + below + show);
        DUE.is("one above it", x.has(9), 1000000);
        Due.plan(x, below.replace(show, show.repeat(3)));
        DUE.is("far above it", x.has(9), 1000000);
        Due.plan(x, "times 9[];" + show);
        DUE.is("one", x.has(9), 1);
        Due.plan(x, "times 9[times 9[];];");
        DUE.is("none in brackets", x.has(9), 0);
        Due.field(x, "thing a 2;");
        DUE.is("it is gone", x.has(9), 0);
    }

    private static void letters() {
        DUE.by(9, "Letter k (0 .. 5) of the NAME of a THING (law NONE), or of a WAY of a LAW: 1 .. 26; 0 behind it; NONE when there is none such.");
        BlindSide x = Due.with("thing a 2;thing azbycx 2;thing zzzzzz 2;thing d 2;thing e 2;");
        int[] long1 = {1, 26, 2, 25, 3, 24};
        for (int k = 0; k < 6; k++) {
            DUE.is("a, letter " + k, x.letter(-1, 0, k), k == 0 ? 1 : 0);
            DUE.is("azbycx, letter " + k, x.letter(-1, 1, k), long1[k]);
            DUE.is("zzzzzz, letter " + k, x.letter(-1, 2, k), 26);
        }
        DUE.is("the fifth thing", x.letter(-1, 4, 0), 5);
        DUE.is("a sixth thing", x.letter(-1, 5, 0), -1);
        DUE.is("no law", x.letter(0, 0, 0), -1);
        Due.law(x, 2, "way v blind 1 when all;way w blind 1 when all;way x knows 1 when all;way y blind 1 when all;way z blind 1 when all;");
        DUE.is("the first way", x.letter(2, 0, 0), 22);
        DUE.is("the fifth way", x.letter(2, 4, 0), 26);
        DUE.is("a sixth way", x.letter(2, 5, 0), -1);
        DUE.is("of a law ahead of it", x.letter(1, 0, 0), -1);
        Due.law(x, 2, "line 1 when all;way q blind 1 when all;");
        DUE.is("a way behind a line", x.letter(2, 0, 0), 17);
        DUE.is("no second one", x.letter(2, 1, 0), -1);
        for (int bad : new int[] {-1, 6, LEAST, MOST}) {
            DUE.leaves("letter(-1, 0, " + bad + ")", -1, y -> y.letter(-1, 0, bad));
            DUE.leaves("letter(0, 0, " + bad + ")", -1, y -> y.letter(0, 0, bad));
        }
        for (int bad : new int[] {-1, 3, LEAST, MOST}) {
            DUE.leaves("letter(-1, " + bad + ", 0)", -1, y -> y.letter(-1, bad, 0));
            DUE.leaves("letter(0, " + bad + ", 0)", -1, y -> y.letter(0, bad, 0));
        }
        for (int bad : new int[] {-3, -2, 3, LEAST, MOST}) {
            DUE.leaves("letter(" + bad + ", 0, 0)", -1, y -> y.letter(bad, 0, 0));
        }
    }
}
