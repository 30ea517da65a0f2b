/**
 * Seen and not known: a field of squares with sight, laws of ways by which what is shown may be
 * carried, trials of a blind one who guesses, and what may be concluded from them.
 * All rows are made in the constructor and used again, so that calls make no objects.
 */
public final class BlindSide {
    /** There is none; it is refused. */
    public static final int NONE = -1;

    private static final int COLUMNS = 12;
    private static final int ROWS = 8;
    private static final int SQUARES = 96;
    private static final int LAWS = 3;
    private static final int TAPE_ROOM = 900;
    private static final int FED = 20;
    private static final int STATEMENTS = 40;
    private static final int NAMED = 5;
    private static final int LETTERS = 6;
    private static final int DIGITS = 4;
    private static final int MOST_NUMBER = 9999;
    private static final int OPEN = 6;
    private static final int TRIALS = 40;
    private static final int TRIAL_BYTES = 8;
    private static final int IMAGE_ROOM = 322;
    private static final int NO_VOICE = 255;
    private static final int GUESSES = 60;
    private static final int MOST_BRIGHT = 99;
    private static final int MOST_SURE = 9;
    private static final int MOST_LINE = 101;
    private static final int KINDS = 8;
    private static final int PLACES = 10;
    private static final int MILLION = 1000000;
    private static final long ALL_CHANCES = 1000000000000L;

    private static final int NO_SUCH_LAW = -2;
    private static final int KNOWN_WAYS = -2;
    private static final int LINE_ASKED = -3;
    private static final int NOT_WHOLE = -1000;

    private static final int FIELD_TEXT = 0;
    private static final int LAW_TEXT = 1;
    private static final int PLAN_TEXT = 2;

    /** The numbers of the OWN WORDS below are their places in this row. */
    private static final String OWN_WORDS =
            "sight disc thing way knows blind line show times when or and not all column row bright light kind min max ";
    private static final int OWN = 21;
    private static final int SIGHT = 0;
    private static final int DISC = 1;
    private static final int THING = 2;
    private static final int WAY = 3;
    private static final int KNOWS = 4;
    private static final int BLIND = 5;
    private static final int LINE = 6;
    private static final int SHOW = 7;
    private static final int TIMES = 8;
    private static final int WHEN = 9;
    private static final int OR = 10;
    private static final int AND = 11;
    private static final int NOT = 12;
    private static final int ALL = 13;
    private static final int COLUMN = 14;
    private static final int ROW = 15;
    private static final int BRIGHT = 16;
    private static final int LIGHT = 17;
    private static final int KIND = 18;
    private static final int MIN = 19;
    private static final int MAX = 20;

    private final Tape tape = new Tape();
    private final Reader reader = new Reader(tape);
    private final Reckoner reckoner = new Reckoner();
    private final Field ground = new Field();
    private final Book book = new Book();
    private final Corridor corridor = new Corridor();
    private final Dice dice = new Dice();
    private final Script[] laws = new Script[LAWS];
    private Script things = new Script();
    private Script showing = new Script();
    /** Where a text is read into: what stands stays whole if it is refused. */
    private Script spare = new Script();
    private final int[] showOrder = new int[TRIALS];
    private int showsListed;
    private int showsInAll;
    private final int[] octets = new int[IMAGE_ROOM];
    private int octetCount;
    private final long[] chances = new long[TRIALS + 1];
    private final int[] helpers = new int[TRIALS];

    public BlindSide() {
        for (int k = 0; k < LAWS; k++) {
            laws[k] = new Script();
        }
        ground.build(things, reckoner);
    }

    // ---- texts

    public int feed(int a, int b, int c, int d, int e) {
        if (tape.length + FED > TAPE_ROOM) {
            return NONE;
        }
        tape.addNumber(a);
        tape.addNumber(b);
        tape.addNumber(c);
        tape.addNumber(d);
        tape.addNumber(e);
        return tape.length;
    }

    public boolean end(int n) {
        if (n < 0 || n > tape.length) {
            return false;
        }
        tape.length = n;
        return true;
    }

    public int field() {
        boolean taken = reader.takes(FIELD_TEXT, spare, things);
        tape.length = 0;
        if (!taken) {
            return NONE;
        }
        Script old = things;
        things = spare;
        spare = old;
        ground.build(things, reckoner);
        book.size = 0;
        showing.stands = false;
        return things.size;
    }

    public int law(int k) {
        boolean such = k >= 0 && k < LAWS;
        boolean taken = such && reader.takes(LAW_TEXT, spare, things);
        tape.length = 0;
        if (!taken) {
            return such ? NONE : NO_SUCH_LAW;
        }
        Script old = laws[k];
        laws[k] = spare;
        spare = old;
        return laws[k].size;
    }

    public int plan() {
        boolean taken = reader.takes(PLAN_TEXT, spare, things);
        tape.length = 0;
        if (!taken) {
            return NONE;
        }
        Script old = showing;
        showing = spare;
        spare = old;
        showsListed = 0;
        listShows(0, showing.size, 0);
        showsInAll = showing.showsInAll();
        return showing.size;
    }

    public int fault(int what) {
        if (what == 0) {
            return reader.fault;
        }
        return what == 1 ? reader.place : NONE;
    }

    public int has(int what) {
        switch (what) {
            case 0: return things.named;
            case 1: return lawsThatStand();
            case 2: return book.size;
            case 3: return corridor.chairCount;
            case 4: return ground.seeing;
            case 5: return ground.disc;
            case 6: return waysOf(0);
            case 7: return waysOf(1);
            case 8: return waysOf(2);
            case 9: return showing.stands ? showsInAll : 0;
            default: return NONE;
        }
    }

    public int letter(int law, int which, int k) {
        Script named = law == NONE ? things : lawAt(law);
        if (named == null || k < 0 || k >= LETTERS) {
            return NONE;
        }
        Statement statement = named.namedAt(which);
        return statement == null ? NONE : letterOf(statement.name, k);
    }

    /** No RUN comes further than to the first 40 SHOWINGS, so these alone are listed. */
    private void listShows(int from, int to, int open) {
        int i = from;
        while (i < to && i < STATEMENTS && showsListed < TRIALS) {
            Statement statement = showing.statements[i];
            if (statement.word == SHOW) {
                showOrder[showsListed] = i;
                showsListed++;
            } else if (showing.showsWithin(i)) {
                listAgain(i, open);
            }
            i = Math.max(i + 1, statement.behind);
        }
    }

    private void listAgain(int times, int open) {
        Statement statement = showing.statements[times];
        for (int k = 0; k < statement.number && open < OPEN; k++) {
            listShows(times + 1, statement.behind, open + 1);
        }
    }

    private int lawsThatStand() {
        int standing = 0;
        for (int k = 0; k < LAWS; k++) {
            standing += laws[k].stands ? 1 : 0;
        }
        return standing;
    }

    private int waysOf(int law) {
        Script ways = lawAt(law);
        return ways == null ? 0 : ways.named;
    }

    /** The LAW of a number, or null. */
    private Script lawAt(int k) {
        return k >= 0 && k < LAWS && laws[k].stands ? laws[k] : null;
    }

    // ---- the field

    public int sight(int column, int row) {
        return isSquare(column, row) ? ground.sights[squareAt(column, row)] : NONE;
    }

    public int piece(int column, int row) {
        return isSquare(column, row) ? ground.pieces[squareAt(column, row)] : NONE;
    }

    public int pieceHas(int piece, int what) {
        if (piece < 0 || piece >= ground.pieceCount) {
            return NONE;
        }
        switch (what) {
            case 0: return ground.sizes[piece];
            case 1: return ground.firsts[piece];
            case 2: return ground.isIsland(piece) ? 1 : 0;
            default: return NONE;
        }
    }

    public int light(int column, int row, int bright) {
        return isSquare(column, row) && isBright(bright) ? ground.lightAt(squareAt(column, row), bright) : NONE;
    }

    private static boolean isSquare(int column, int row) {
        return column >= 0 && column < COLUMNS && row >= 0 && row < ROWS;
    }

    private static int squareAt(int column, int row) {
        return COLUMNS * row + column;
    }

    private static boolean isBright(int bright) {
        return bright >= 0 && bright <= MOST_BRIGHT;
    }

    // ---- laws

    public int carries(int law, int way, int thing, int column, int row, int bright) {
        Script ways = lawAt(law);
        if (ways == null || !showsTold(thing, column, row, bright)) {
            return NONE;
        }
        switch (way) {
            case NONE: return ways.carriedMost(reckoner, false);
            case KNOWN_WAYS: return ways.carriedMost(reckoner, true);
            case LINE_ASKED: return ways.lineBy(reckoner);
            default: return ways.carriedBy(ways.namedAt(way), reckoner);
        }
    }

    public int says(int law, int thing, int column, int row, int bright) {
        Script ways = lawAt(law);
        if (ways == null || !showsTold(thing, column, row, bright)) {
            return NONE;
        }
        return ways.saysBy(reckoner) ? 1 : 0;
    }

    public int whole(int law, int thing, int column, int row, int bright, int otherColumn, int otherRow, int what) {
        Script ways = lawAt(law);
        boolean asked = what >= 0 && what <= 2 && isSquare(otherColumn, otherRow);
        if (!asked || ways == null || !showsTold(thing, column, row, bright)) {
            return NOT_WHOLE;
        }
        int carried = ways.carriedMost(reckoner, false);
        int known = ways.carriedMost(reckoner, true);
        int square = squareAt(otherColumn, otherRow);
        int nearest = nearestBright(ways, thing, square, carried);
        if (what == 0) {
            return nearest;
        }
        putShowing(thing, square, nearest);
        return what == 1 ? ways.carriedMost(reckoner, false) : ways.carriedMost(reckoner, true) - known;
    }

    public int odds(int law, int thing, int column, int row, int bright, boolean right, boolean above) {
        Script ways = lawAt(law);
        if (ways == null || !showsTold(thing, column, row, bright)) {
            return NONE;
        }
        int sorts = sortsOf(thing);
        int over = oddsOver(ways.carriedMost(reckoner, false), sorts, right);
        int under = 100 * sorts;
        int common = (int) divisorOf(over, under);
        return (above ? over : under) / Math.max(1, common);
    }

    public int draw(int law, int thing, int column, int row, int bright, int sort, int seed) {
        Script ways = lawAt(law);
        if (ways == null || seed < 0 || !showsTold(thing, column, row, bright) || !isSort(thing, sort)) {
            return NONE;
        }
        dice.seed = seed;
        return dice.guess(ways.carriedMost(reckoner, false), sort, sortsOf(thing));
    }

    /** Puts a SHOWING before the laws; false when there can be none such. */
    private boolean showsTold(int thing, int column, int row, int bright) {
        if (!canShow(thing, column, row, bright)) {
            return false;
        }
        putShowing(thing, squareAt(column, row), bright);
        return true;
    }

    private boolean canShow(int thing, int column, int row, int bright) {
        return thing >= 0 && thing < things.named && isSquare(column, row) && isBright(bright);
    }

    private void putShowing(int thing, int square, int bright) {
        reckoner.putSquare(square);
        reckoner.seen[SIGHT] = ground.sights[square];
        reckoner.seen[BRIGHT] = bright;
        reckoner.seen[LIGHT] = ground.lightAt(square, bright);
        reckoner.seen[KIND] = thing;
    }

    private int nearestBright(Script ways, int thing, int square, int carried) {
        int nearest = 1;
        int gap = MILLION;
        for (int bright = 1; bright <= MOST_BRIGHT && gap > 0; bright++) {
            putShowing(thing, square, bright);
            int other = Math.abs(ways.carriedMost(reckoner, false) - carried);
            if (other < gap) {
                gap = other;
                nearest = bright;
            }
        }
        return nearest;
    }

    private int sortsOf(int thing) {
        Statement statement = things.namedAt(thing);
        return statement == null ? 1 : Math.max(1, statement.number);
    }

    private boolean isSort(int thing, int sort) {
        return sort >= 0 && sort < sortsOf(thing);
    }

    /** What stands above 100 times the sorts in the ODDS of the right sort, or of one that is not. */
    private static int oddsOver(int carried, int sorts, boolean right) {
        return right ? 100 + carried * (sorts - 1) : 100 - carried;
    }

    private static long divisorOf(long one, long other) {
        long greater = one;
        long less = other;
        for (int turn = 0; turn < 100 && less != 0; turn++) {
            long rest = greater % less;
            greater = less;
            less = rest;
        }
        return greater;
    }

    // ---- trials

    public int trial(int thing, int column, int row, int bright, int sort, int guess, boolean said, int sure) {
        Trial trial = book.nextFree();
        boolean shown = trial != null && canShow(thing, column, row, bright);
        if (!shown || !isSort(thing, sort) || !isSort(thing, guess) || sure < 0 || sure > MOST_SURE) {
            return NONE;
        }
        trial.putShowing(thing, squareAt(column, row), bright, sort);
        trial.putAnswer(guess, said, sure);
        book.size++;
        return book.size;
    }

    public int run(int law, int seed) {
        Script ways = lawAt(law);
        if (ways == null || !showing.stands || seed < 0) {
            return NONE;
        }
        dice.seed = seed;
        int before = book.size;
        for (int ahead = 0; ahead < showsListed && book.size < TRIALS; ahead++) {
            runShow(ways, showing.statements[showOrder[ahead]], ahead);
        }
        return book.size - before;
    }

    public boolean moved(int i, int columns, int rows) {
        Trial trial = book.trialAt(i);
        if (trial == null || trial.moved || columns == 0 && rows == 0) {
            return false;
        }
        // first a test of how far, so that the sums below cannot run over
        if (Math.abs((long) columns) >= COLUMNS || Math.abs((long) rows) >= ROWS) {
            return false;
        }
        int column = trial.square % COLUMNS + columns;
        int row = trial.square / COLUMNS + rows;
        if (!isSquare(column, row)) {
            return false;
        }
        trial.square = squareAt(column, row);
        trial.moved = true;
        return true;
    }

    public boolean voice(int i, int sort) {
        Trial trial = book.trialAt(i);
        if (trial == null || trial.told != NONE || !isSort(trial.thing, sort)) {
            return false;
        }
        trial.told = sort;
        return true;
    }

    public int undo() {
        if (book.size == 0) {
            return NONE;
        }
        book.size--;
        return book.size;
    }

    public int tried(int i, int what) {
        Trial trial = book.trialAt(i);
        if (trial == null) {
            return NONE;
        }
        switch (what) {
            case 0: return trial.thing;
            case 1: return trial.square % COLUMNS;
            case 2: return trial.square / COLUMNS;
            case 3: return trial.bright;
            case 4: return trial.sort;
            case 5: return trial.guess;
            case 6: return trial.said ? 1 : 0;
            case 7: return trial.sure;
            case 8: return trial.isRight() ? 1 : 0;
            case 9: return ground.lightAt(trial.square, trial.bright);
            case 10: return trial.moved ? 1 : 0;
            case 11: return trial.told;
            default: return NONE;
        }
    }

    public int count(int thing, int where, boolean right) {
        if (!isThingOrAll(thing) || where < 0 || where >= PLACES) {
            return NONE;
        }
        int counted = 0;
        for (int i = 0; i < book.size; i++) {
            Trial trial = book.trials[i];
            if (trial.isOf(thing) && (!right || trial.isRight()) && isWhere(trial, where)) {
                counted++;
            }
        }
        return counted;
    }

    public long chance(int thing) {
        return isThingOrAll(thing) ? chanceOf(thing, false) : NONE;
    }

    public long honest(int thing) {
        return isThingOrAll(thing) ? chanceOf(thing, true) : NONE;
    }

    public int needed(int thing, long chance) {
        if (thing < 0 || thing >= things.named) {
            return NONE;
        }
        // all of them RIGHT: of the row of chances the last one alone counts
        long left = ALL_CHANCES;
        for (int guesses = 1; guesses <= GUESSES; guesses++) {
            left /= sortsOf(thing);
            if (left <= chance) {
                return guesses;
            }
        }
        return NONE;
    }

    public int kind(int law, int i) {
        Script ways = lawAt(law);
        Trial trial = book.trialAt(i);
        return ways == null || trial == null ? NONE : kindOf(ways, trial);
    }

    public int kinds(int law, int kind) {
        Script ways = lawAt(law);
        if (ways == null || kind < 0 || kind >= KINDS) {
            return NONE;
        }
        int counted = 0;
        for (int i = 0; i < book.size; i++) {
            counted += kindOf(ways, book.trials[i]) == kind ? 1 : 0;
        }
        return counted;
    }

    public long weight(int law) {
        Script ways = lawAt(law);
        return ways == null ? NONE : weightOf(ways);
    }

    public int thrown(int law) {
        Script ways = lawAt(law);
        if (ways == null) {
            return NONE;
        }
        for (int i = 0; i < book.size; i++) {
            if (oddsOfGuess(ways, book.trials[i]) == 0) {
                return i;
            }
        }
        return NONE;
    }

    public int likely() {
        int best = NONE;
        long most = -1;
        for (int k = 0; k < LAWS; k++) {
            long own = laws[k].stands ? weightOf(laws[k]) : -1;
            if (own > most) {
                most = own;
                best = k;
            }
        }
        return best;
    }

    public int lies(int law) {
        Script ways = lawAt(law);
        if (ways == null) {
            return NONE;
        }
        int counted = 0;
        for (int i = 0; i < book.size; i++) {
            Trial trial = book.trials[i];
            putTrial(trial);
            counted += ways.saysBy(reckoner) != trial.said ? 1 : 0;
        }
        return counted;
    }

    public int span(int law, boolean most) {
        Script ways = lawAt(law);
        if (ways == null) {
            return NONE;
        }
        int lowest = 0;
        int highest = MOST_LINE;
        for (int i = 0; i < book.size; i++) {
            Trial trial = book.trials[i];
            putTrial(trial);
            int known = ways.carriedMost(reckoner, true);
            if (trial.said) {
                highest = Math.min(highest, known);
            } else {
                lowest = Math.max(lowest, known + 1);
            }
        }
        if (lowest > highest) {
            return NONE;
        }
        return most ? highest : lowest;
    }

    public int bound() {
        int most = 0;
        for (int i = 0; i < book.size; i++) {
            Trial trial = book.trials[i];
            if (trial.square == ground.disc) {
                most = Math.max(most, ground.lightAt(trial.square, trial.bright));
            }
        }
        return most;
    }

    public int left() {
        int most = bound();
        int counted = 0;
        for (int i = 0; i < book.size; i++) {
            Trial trial = book.trials[i];
            boolean gone = trial.isRight() && ground.isGone(trial.square);
            counted += gone && ground.lightAt(trial.square, trial.bright) <= most ? 1 : 0;
        }
        return counted;
    }

    public int fewest(int law, boolean set) {
        Script ways = lawAt(law);
        if (ways == null) {
            return NONE;
        }
        int asked = listHelpers(ways);
        int best = NONE;
        int least = NAMED + 1;
        for (int some = 0; some < 1 << ways.named; some++) {
            int size = Integer.bitCount(some);
            if (size < least && explains(some, asked)) {
                least = size;
                best = some;
            }
        }
        return set || best == NONE ? best : least;
    }

    private void runShow(Script ways, Statement show, int ahead) {
        Trial trial = book.nextFree();
        if (trial == null) {
            return;
        }
        int square = squareAt(show.column, show.row);
        int sorts = sortsOf(show.number);
        int sort = dice.roll(sorts);
        int bright = brightOf(show, square, ahead);
        putShowing(show.number, square, bright);
        int carried = ways.carriedMost(reckoner, false);
        trial.putShowing(show.number, square, bright, sort);
        trial.putAnswer(dice.guess(carried, sort, sorts), ways.saysBy(reckoner), carried / 11);
        book.size++;
    }

    /** In a PLAN bright tells how many were ahead, and there is no light yet. */
    private int brightOf(Statement show, int square, int ahead) {
        putShowing(show.number, square, 0);
        reckoner.seen[BRIGHT] = ahead;
        return clamped(reckoner.reckon(showing.code, show.sumFrom, show.sumBehind), 0, MOST_BRIGHT);
    }

    private void putTrial(Trial trial) {
        putShowing(trial.thing, trial.square, trial.bright);
    }

    private boolean isThingOrAll(int thing) {
        return thing >= NONE && thing < things.named;
    }

    private boolean isWhere(Trial trial, int where) {
        switch (where) {
            case 0: return true;
            case 1: return trial.said;
            case 2: return !trial.said;
            case 3: return ground.isGone(trial.square);
            case 4: return trial.square == ground.disc;
            case 5: return trial.bright == 0;
            case 6: return ground.isIsland(ground.pieces[trial.square]);
            case 7: return trial.sure >= 5;
            case 8: return trial.moved;
            case 9: return trial.isLed();
            default: return false;
        }
    }

    private long chanceOf(int thing, boolean honestAlone) {
        for (int j = 0; j < chances.length; j++) {
            chances[j] = j == 0 ? ALL_CHANCES : 0;
        }
        int taken = 0;
        int right = 0;
        for (int i = 0; i < book.size; i++) {
            Trial trial = book.trials[i];
            if (trial.isOf(thing) && !(honestAlone && (trial.moved || trial.isLed()))) {
                taken++;
                spreadChances(taken, sortsOf(trial.thing));
                right += trial.isRight() ? 1 : 0;
            }
        }
        long sum = 0;
        for (int j = right; j < chances.length; j++) {
            sum += chances[j];
        }
        return sum;
    }

    /** From the last one down, so that each goes by what stood there ahead of the TRIAL. */
    private void spreadChances(int last, int sorts) {
        for (int j = Math.min(last, TRIALS); j >= 0; j--) {
            long fromRight = j > 0 ? chances[j - 1] : 0;
            chances[j] = (chances[j] * (sorts - 1) + fromRight) / sorts;
        }
    }

    private int kindOf(Script ways, Trial trial) {
        if (!trial.isRight()) {
            return 0;
        }
        if (trial.moved) {
            return 1;
        }
        if (trial.isLed()) {
            return 2;
        }
        if (trial.said) {
            return 3;
        }
        if (isScattered(trial)) {
            return 4;
        }
        if (ground.isIsland(ground.pieces[trial.square])) {
            return 5;
        }
        putTrial(trial);
        int known = ways.carriedMost(reckoner, true);
        return known > 0 && known < ways.lineBy(reckoner) ? 6 : 7;
    }

    private boolean isScattered(Trial trial) {
        boolean unseen = trial.square == ground.disc || ground.isGone(trial.square);
        return unseen && ground.lightAt(trial.square, trial.bright) >= 5;
    }

    private int oddsOfGuess(Script ways, Trial trial) {
        putTrial(trial);
        return oddsOver(ways.carriedMost(reckoner, false), sortsOf(trial.thing), trial.isRight());
    }

    private long weightOf(Script ways) {
        long weight = ALL_CHANCES;
        for (int i = 0; i < book.size && weight > 0; i++) {
            Trial trial = book.trials[i];
            weight = weight * oddsOfGuess(ways, trial) / (100L * sortsOf(trial.thing));
        }
        return weight;
    }

    /** Lists, for each TRIAL that asks for a WAY, the WAYS that carry something of it, as bits. */
    private int listHelpers(Script ways) {
        int asked = 0;
        for (int i = 0; i < book.size; i++) {
            Trial trial = book.trials[i];
            if (trial.isRight() && trial.bright > 0) {
                putTrial(trial);
                helpers[asked] = ways.carriersBy(reckoner);
                asked++;
            }
        }
        return asked;
    }

    private boolean explains(int some, int asked) {
        for (int i = 0; i < asked && i < TRIALS; i++) {
            if ((helpers[i] & some) == 0) {
                return false;
            }
        }
        return true;
    }

    // ---- what parts laws

    public int parted(int first, int second, int thing, int column, int row, int bright) {
        Script one = lawAt(first);
        Script other = lawAt(second);
        if (one == null || other == null || !showsTold(thing, column, row, bright)) {
            return NONE;
        }
        return partedBy(one, other, sortsOf(thing));
    }

    public int next(int first, int second, int bright, int what) {
        Script one = lawAt(first);
        Script other = lawAt(second);
        boolean asked = what >= 0 && what <= 3 && isBright(bright);
        if (!asked || one == null || other == null || things.named == 0) {
            return NONE;
        }
        int best = 0;
        int most = -1;
        for (int k = 0; k < things.named * SQUARES; k++) {
            int thing = k / SQUARES;
            putShowing(thing, k % SQUARES, bright);
            int parting = partedBy(one, other, sortsOf(thing));
            if (parting > most) {
                most = parting;
                best = k;
            }
        }
        switch (what) {
            case 0: return best / SQUARES;
            case 1: return best % COLUMNS;
            case 2: return best % SQUARES / COLUMNS;
            default: return most;
        }
    }

    /** Both ODDS have 100 times the sorts below, so the difference of what is CARRIED tells all. */
    private int partedBy(Script one, Script other, int sorts) {
        int gap = Math.abs(one.carriedMost(reckoner, false) - other.carriedMost(reckoner, false));
        return gap * (sorts - 1) * (MILLION / 100) / sorts;
    }

    // ---- the corridor

    public int chair(int column, int row, boolean on) {
        if (!isSquare(column, row) || !corridor.putChair(squareAt(column, row), on)) {
            return NONE;
        }
        return corridor.chairCount;
    }

    public int walks(int row) {
        return row >= 0 && row < ROWS ? (int) corridor.passed(row, false) : NONE;
    }

    public long walk(int row, boolean above) {
        if (row < 0 || row >= ROWS) {
            return NONE;
        }
        long over = corridor.passed(row, true);
        long common = divisorOf(over, Corridor.ALL_SHARES);
        return (above ? over : Corridor.ALL_SHARES) / Math.max(1, common);
    }

    // ---- images

    public int image() {
        octetCount = 0;
        putOctet(book.size);
        for (int i = 0; i < book.size; i++) {
            for (int k = 0; k < TRIAL_BYTES; k++) {
                putOctet(book.trials[i].byteAt(k));
            }
        }
        int check = 5;
        for (int k = 0; k < octetCount; k++) {
            check = checkedOn(check, octets[k]);
        }
        putOctet(check);
        return octetCount;
    }

    public int octet(int k) {
        return k >= 0 && k < octetCount ? octets[k] : NONE;
    }

    public boolean on() {
        boolean taken = isImage();
        if (taken) {
            book.size = tape.at(0);
            for (int i = 0; i < book.size; i++) {
                book.trials[i].take(tape, imagePlace(i));
            }
        }
        tape.length = 0;
        return taken;
    }

    private void putOctet(int octet) {
        if (octetCount < IMAGE_ROOM) {
            octets[octetCount] = octet;
            octetCount++;
        }
    }

    private static int checkedOn(int check, int octet) {
        return (3 * check + octet) % 233;
    }

    private static int imagePlace(int trial) {
        return 1 + TRIAL_BYTES * trial;
    }

    private boolean isImage() {
        int size = tape.at(0);
        if (size < 0 || size > TRIALS || tape.length != imagePlace(size) + 1) {
            return false;
        }
        int check = 5;
        for (int k = 0; k < tape.length - 1; k++) {
            check = checkedOn(check, tape.at(k));
        }
        if (check != tape.at(tape.length - 1)) {
            return false;
        }
        for (int i = 0; i < size; i++) {
            if (!isTrial(imagePlace(i))) {
                return false;
            }
        }
        return true;
    }

    private boolean isTrial(int place) {
        int thing = tape.at(place);
        if (thing >= things.named || tape.at(place + 1) >= SQUARES || !isBright(tape.at(place + 2))) {
            return false;
        }
        if (!isSort(thing, tape.at(place + 3)) || !isSort(thing, tape.at(place + 4))) {
            return false;
        }
        int told = tape.at(place + 7);
        return tape.at(place + 5) <= 3 && tape.at(place + 6) <= MOST_SURE && (told == NO_VOICE || isSort(thing, told));
    }

    // ---- what all of them use

    private static int clamped(int number, int least, int most) {
        if (number < least) {
            return least;
        }
        return number > most ? most : number;
    }

    /** NAMES and words are held as numbers: six letters of 27, those behind the last one 0. */
    private static int withLetter(int name, int k, int letter) {
        int power = 1;
        for (int i = k; i < LETTERS - 1; i++) {
            power *= 27;
        }
        return name + letter * power;
    }

    private static int letterOf(int name, int k) {
        int rest = name;
        for (int i = k; i < LETTERS - 1; i++) {
            rest /= 27;
        }
        return rest % 27;
    }

    private static boolean isLetter(int octet) {
        return octet >= 'a' && octet <= 'z';
    }

    private static boolean isDigit(int octet) {
        return octet >= '0' && octet <= '9';
    }

    private static boolean isBlank(int octet) {
        return octet == 10 || octet == 32;
    }

    /** The bytes that were fed. */
    private static final class Tape {
        private final int[] octets = new int[TAPE_ROOM];
        private int length;

        private void addNumber(int number) {
            for (int shift = 24; shift >= 0 && length < TAPE_ROOM; shift -= 8) {
                octets[length] = number >>> shift & 255;
                length++;
            }
        }

        private int at(int k) {
            return k >= 0 && k < length ? octets[k] : NONE;
        }
    }

    /** Parts the tape into words, numbers and signs, each with its place; the last one is its END. */
    private static final class Lexer {
        private static final int END = 0;
        /** A word of at most six letters that is no OWN WORD; its value is the NAME. */
        private static final int NAME = 1;
        private static final int OWN_WORD = 2;
        private static final int NUMBER = 3;
        private static final int SIGN = 4;
        private static final int LONG_WORD = 5;
        private static final int LONG_NUMBER = 6;
        /** A word or number without a blank behind another one: nowhere may it stand. */
        private static final int GLUED = 7;

        private final Tape tape;
        private final int[] ownNames = new int[OWN];
        private final int[] kinds = new int[TAPE_ROOM + 1];
        private final int[] values = new int[TAPE_ROOM + 1];
        private final int[] places = new int[TAPE_ROOM + 1];
        private int size;

        private Lexer(Tape tape) {
            this.tape = tape;
            int word = 0;
            int k = 0;
            for (int i = 0; i < OWN_WORDS.length() && word < OWN; i++) {
                char sign = OWN_WORDS.charAt(i);
                if (sign == ' ') {
                    word++;
                    k = 0;
                } else {
                    ownNames[word] = withLetter(ownNames[word], k, sign - 'a' + 1);
                    k++;
                }
            }
        }

        private void partTape() {
            size = 0;
            int at = 0;
            while (at < tape.length) {
                int first = tape.at(at);
                int behind = at + 1;
                if (isLetter(first)) {
                    behind = addWord(at);
                } else if (isDigit(first)) {
                    behind = addNumber(at);
                } else if (!isBlank(first)) {
                    add(SIGN, first, at);
                }
                at = Math.max(at + 1, behind);
            }
            add(END, 0, tape.length);
        }

        private void add(int kind, int value, int place) {
            if (size <= TAPE_ROOM) {
                kinds[size] = kind;
                values[size] = value;
                places[size] = place;
                size++;
            }
        }

        /** A word is taken whole; the place behind it. */
        private int addWord(int from) {
            int name = 0;
            int at = from;
            while (at < tape.length && isLetter(tape.at(at))) {
                name = at - from < LETTERS ? withLetter(name, at - from, tape.at(at) - 'a' + 1) : name;
                at++;
            }
            if (isGlued(from)) {
                add(GLUED, 0, from);
            } else if (at - from > LETTERS) {
                add(LONG_WORD, 0, from);
            } else if (ownWordOf(name) != NONE) {
                add(OWN_WORD, ownWordOf(name), from);
            } else {
                add(NAME, name, from);
            }
            return at;
        }

        private int ownWordOf(int name) {
            for (int word = 0; word < OWN; word++) {
                if (ownNames[word] == name) {
                    return word;
                }
            }
            return NONE;
        }

        /** A number is taken whole; the place behind it. */
        private int addNumber(int from) {
            int number = 0;
            int at = from;
            while (at < tape.length && isDigit(tape.at(at))) {
                number = at - from < DIGITS ? 10 * number + tape.at(at) - '0' : number;
                at++;
            }
            if (isGlued(from)) {
                add(GLUED, 0, from);
            } else {
                add(at - from > DIGITS ? LONG_NUMBER : NUMBER, number, from);
            }
            return at;
        }

        private boolean isGlued(int at) {
            int ahead = tape.at(at - 1);
            return isLetter(ahead) || isDigit(ahead);
        }
    }

    /** One STATEMENT; which of the rest counts depends on its word. */
    private static final class Statement {
        private int word;
        private int name;
        /** A THING's sorts, how many times, or the number of the THING shown. */
        private int number;
        private int column;
        private int row;
        private boolean knows;
        private int sumFrom;
        private int sumBehind;
        /** Of the TEST, which begins behind the SUM. */
        private int testBehind;
        /** The number of the STATEMENT behind it and all those in its brackets. */
        private int behind;
    }

    /** A text that was read: STATEMENTS in the order of their beginnings, SUMS and TESTS as code. */
    private static final class Script {
        private final Statement[] statements = new Statement[STATEMENTS];
        private int size;
        private final int[] namedOnes = new int[NAMED];
        private int named;
        private final int[] code = new int[TAPE_ROOM];
        private int codeLength;
        private boolean stands;

        private Script() {
            for (int i = 0; i < STATEMENTS; i++) {
                statements[i] = new Statement();
            }
        }

        private void empty() {
            size = 0;
            named = 0;
            codeLength = 0;
        }

        /** A new last STATEMENT; the caller has looked whether there is room. */
        private Statement begun(int word) {
            Statement statement = statements[Math.min(size, STATEMENTS - 1)];
            size = Math.min(size + 1, STATEMENTS);
            statement.word = word;
            statement.behind = size;
            return statement;
        }

        /** Names the last STATEMENT. */
        private void putName(int name) {
            if (size > 0 && named < NAMED) {
                statements[size - 1].name = name;
                namedOnes[named] = size - 1;
                named++;
            }
        }

        private Statement namedAt(int which) {
            return which >= 0 && which < named ? statements[namedOnes[which]] : null;
        }

        private int whichIs(int name) {
            for (int which = 0; which < named; which++) {
                if (statements[namedOnes[which]].name == name) {
                    return which;
                }
            }
            return NONE;
        }

        private void emit(int mark) {
            if (codeLength < TAPE_ROOM) {
                code[codeLength] = mark;
                codeLength++;
            }
        }

        /** The SUM of the first STATEMENT of a word whose TEST holds. */
        private int firstSum(int word, Reckoner reckoner, int without) {
            for (int i = 0; i < size; i++) {
                Statement statement = statements[i];
                if (statement.word == word && reckoner.reckon(code, statement.sumBehind, statement.testBehind) != 0) {
                    return reckoner.reckon(code, statement.sumFrom, statement.sumBehind);
                }
            }
            return without;
        }

        private int carriedBy(Statement way, Reckoner reckoner) {
            if (way == null) {
                return NONE;
            }
            if (reckoner.seen[BRIGHT] == 0 || reckoner.reckon(code, way.sumBehind, way.testBehind) == 0) {
                return 0;
            }
            return clamped(reckoner.reckon(code, way.sumFrom, way.sumBehind), 0, 100);
        }

        private int carriedMost(Reckoner reckoner, boolean knownAlone) {
            int most = 0;
            for (int which = 0; which < named; which++) {
                Statement way = statements[namedOnes[which]];
                if (way.knows || !knownAlone) {
                    most = Math.max(most, carriedBy(way, reckoner));
                }
            }
            return most;
        }

        /** The WAYS by which something is carried, as bits. */
        private int carriersBy(Reckoner reckoner) {
            int carriers = 0;
            for (int which = 0; which < named; which++) {
                carriers |= carriedBy(statements[namedOnes[which]], reckoner) > 0 ? 1 << which : 0;
            }
            return carriers;
        }

        private int lineBy(Reckoner reckoner) {
            return clamped(firstSum(LINE, reckoner, MOST_LINE), 0, MOST_LINE);
        }

        private boolean saysBy(Reckoner reckoner) {
            return carriedMost(reckoner, true) >= lineBy(reckoner);
        }

        private boolean showsWithin(int times) {
            for (int i = times + 1; i < statements[times].behind && i < size; i++) {
                if (statements[i].word == SHOW) {
                    return true;
                }
            }
            return false;
        }

        private int showsInAll() {
            int sum = 0;
            for (int i = 0; i < size; i++) {
                sum += statements[i].word == SHOW ? timesOf(i) : 0;
            }
            return Math.min(sum, MILLION);
        }

        /** How many times a STATEMENT comes, by all the times around it. */
        private int timesOf(int i) {
            int times = 1;
            for (int outer = 0; outer < i; outer++) {
                boolean around = statements[outer].word == TIMES && statements[outer].behind > i;
                times = around ? Math.min(MILLION, times * statements[outer].number) : times;
            }
            return times;
        }
    }

    /** Reads a text into a Script, up to its first FAULT. The methods answer whether there was none. */
    private static final class Reader {
        private static final int UNFIT = 1;
        private static final int NUMBER_CANNOT_BE = 2;
        private static final int NAME_CANNOT_BE = 3;
        private static final int TOO_DEEP = 4;
        private static final int TOO_MANY = 5;

        private final Lexer lexer;
        private Script script;
        /** Whose THINGS a PLAN may show. */
        private Script known;
        private int sort;
        private int fault;
        private int place = NONE;
        /** What stands here: its kind, its value, where, and which OWN WORD it is. */
        private int here;
        private int kind;
        private int value;
        private int at;
        private int ownWord;

        private Reader(Tape tape) {
            lexer = new Lexer(tape);
        }

        private boolean takes(int sort, Script script, Script known) {
            this.sort = sort;
            this.script = script;
            this.known = known;
            fault = 0;
            place = NONE;
            script.empty();
            lexer.partTape();
            here = NONE;
            step();
            script.stands = readStatements(0);
            return script.stands;
        }

        private void step() {
            if (here < lexer.size - 1) {
                here++;
            }
            kind = lexer.kinds[here];
            value = lexer.values[here];
            at = lexer.places[here];
            ownWord = kind == Lexer.OWN_WORD ? value : NONE;
        }

        private boolean isSign(char sign) {
            return kind == Lexer.SIGN && value == sign;
        }

        private boolean refused(int fault, int place) {
            this.fault = fault;
            this.place = place;
            return false;
        }

        /** Up to the text's end, or, with brackets open, up to the one that closes. */
        private boolean readStatements(int open) {
            for (int i = 0; i <= STATEMENTS; i++) {
                if (open == 0 ? kind == Lexer.END : isSign(']')) {
                    return true;
                }
                if (script.size >= STATEMENTS && kind != Lexer.END) {
                    return refused(TOO_MANY, at);
                }
                if (!isStatementWord()) {
                    return refused(UNFIT, at);
                }
                if (!readStatement(open) || !readSign(';')) {
                    return false;
                }
            }
            return false;
        }

        private boolean isStatementWord() {
            switch (sort) {
                case FIELD_TEXT: return ownWord == SIGHT || ownWord == DISC || ownWord == THING;
                case LAW_TEXT: return ownWord == WAY || ownWord == LINE;
                default: return ownWord == SHOW || ownWord == TIMES;
            }
        }

        private boolean readStatement(int open) {
            boolean named = ownWord == THING || ownWord == WAY;
            if (named && script.named >= NAMED) {
                return refused(TOO_MANY, at);
            }
            Statement statement = script.begun(ownWord);
            step();
            switch (statement.word) {
                case DISC: return readSquare(statement);
                case THING: return readNewName() && readNumber(statement, 2, 6);
                case WAY: return readNewName() && readKnows(statement) && readRule(statement);
                case SHOW: return readShow(statement, open);
                case TIMES: return readTimes(statement, open);
                default: return readRule(statement);
            }
        }

        private boolean readKnows(Statement way) {
            if (ownWord != KNOWS && ownWord != BLIND) {
                return refused(UNFIT, at);
            }
            way.knows = ownWord == KNOWS;
            step();
            return true;
        }

        private boolean readShow(Statement show, int open) {
            int name = value;
            int nameAt = at;
            if (!readName()) {
                return false;
            }
            show.number = known.whichIs(name);
            if (show.number == NONE) {
                return refused(NAME_CANNOT_BE, nameAt);
            }
            show.sumFrom = script.codeLength;
            if (!readSquare(show) || !readSum(open)) {
                return false;
            }
            show.sumBehind = script.codeLength;
            return true;
        }

        private boolean readTimes(Statement times, int open) {
            if (!readNumber(times, 1, 9)) {
                return false;
            }
            if (!isSign('[')) {
                return refused(UNFIT, at);
            }
            if (open >= OPEN) {
                return refused(TOO_DEEP, at);
            }
            step();
            boolean fits = readStatements(open + 1) && readSign(']');
            times.behind = script.size;
            return fits;
        }

        private boolean readNewName() {
            int name = value;
            int nameAt = at;
            if (!readName()) {
                return false;
            }
            if (script.whichIs(name) != NONE) {
                return refused(NAME_CANNOT_BE, nameAt);
            }
            script.putName(name);
            return true;
        }

        private boolean readName() {
            if (kind == Lexer.LONG_WORD) {
                return refused(UNFIT, at + LETTERS);
            }
            if (kind != Lexer.NAME) {
                return refused(UNFIT, at);
            }
            step();
            return true;
        }

        private boolean readNumber(Statement statement, int least, int most) {
            statement.number = takenNumber(least, most);
            return statement.number != NONE;
        }

        private boolean readSquare(Statement statement) {
            statement.column = takenNumber(0, COLUMNS - 1);
            if (statement.column == NONE) {
                return false;
            }
            statement.row = takenNumber(0, ROWS - 1);
            return statement.row != NONE;
        }

        /** The number that stands here; NONE, with its FAULT, if it can't be. */
        private int takenNumber(int least, int most) {
            int number = value;
            if (kind == Lexer.LONG_NUMBER) {
                refused(UNFIT, at + DIGITS);
            } else if (kind != Lexer.NUMBER) {
                refused(UNFIT, at);
            } else if (number < least || number > most) {
                refused(NUMBER_CANNOT_BE, at);
            } else {
                step();
                return number;
            }
            return NONE;
        }

        private boolean readSign(char sign) {
            if (!isSign(sign)) {
                return refused(UNFIT, at);
            }
            step();
            return true;
        }

        /** SUM when TEST. */
        private boolean readRule(Statement statement) {
            statement.sumFrom = script.codeLength;
            if (!readSum(0)) {
                return false;
            }
            statement.sumBehind = script.codeLength;
            if (ownWord != WHEN) {
                return refused(UNFIT, at);
            }
            step();
            boolean fits = readTest(0);
            statement.testBehind = script.codeLength;
            return fits;
        }

        private boolean readTest(int open) {
            boolean fits = readBoth(open);
            for (int i = 0; i < TAPE_ROOM && fits && ownWord == OR; i++) {
                step();
                fits = readBoth(open);
                script.emit(~OR);
            }
            return fits;
        }

        private boolean readBoth(int open) {
            boolean fits = readFact(open);
            for (int i = 0; i < TAPE_ROOM && fits && ownWord == AND; i++) {
                step();
                fits = readFact(open);
                script.emit(~AND);
            }
            return fits;
        }

        private boolean readFact(int open) {
            boolean opens = ownWord == NOT || isSign('[');
            if (opens && open >= OPEN) {
                return refused(TOO_DEEP, at);
            }
            if (ownWord == NOT) {
                step();
                boolean fits = readFact(open + 1);
                script.emit(~NOT);
                return fits;
            }
            if (opens) {
                step();
                return readTest(open + 1) && readSign(']');
            }
            if (ownWord == ALL) {
                step();
                script.emit(1);
                return true;
            }
            if (!readSum(open)) {
                return false;
            }
            int sign = value;
            if (!isSign('<') && !isSign('>') && !isSign('=')) {
                return refused(UNFIT, at);
            }
            step();
            boolean fits = readSum(open);
            script.emit(~sign);
            return fits;
        }

        private boolean readSum(int open) {
            boolean fits = readProduct(open);
            for (int i = 0; i < TAPE_ROOM && fits && (isSign('+') || isSign('-')); i++) {
                int sign = value;
                step();
                fits = readProduct(open);
                script.emit(~sign);
            }
            return fits;
        }

        private boolean readProduct(int open) {
            boolean fits = readPart(open);
            for (int i = 0; i < TAPE_ROOM && fits && (isSign('*') || isSign('/')); i++) {
                int sign = value;
                step();
                fits = readPart(open);
                script.emit(~sign);
            }
            return fits;
        }

        private boolean readPart(int open) {
            if (isSign('(')) {
                return readBracket(open, NONE);
            }
            if (ownWord == MIN || ownWord == MAX) {
                int word = ownWord;
                step();
                return readBracket(open, word);
            }
            if (Reckoner.isPart(ownWord)) {
                script.emit(~ownWord);
                step();
                return true;
            }
            int number = takenNumber(0, MOST_NUMBER);
            script.emit(number);
            return number != NONE;
        }

        /** ( SUM ), or behind min and max ( SUM , SUM ). */
        private boolean readBracket(int open, int word) {
            if (!isSign('(')) {
                return refused(UNFIT, at);
            }
            if (open >= OPEN) {
                return refused(TOO_DEEP, at);
            }
            step();
            boolean fits = readSum(open + 1);
            if (word != NONE) {
                fits = fits && readSign(',') && readSum(open + 1);
                script.emit(~word);
            }
            return fits && readSign(')');
        }
    }

    /**
     * Reckons code: a number stands for itself, ~ of an OWN WORD's number or of a sign for what it
     * tells or does with what was reckoned ahead of it.
     */
    private static final class Reckoner {
        private static final int STACK = 64;

        /** What column, row, bright, sight, light and kind tell, by the numbers of these words. */
        private final int[] seen = new int[OWN];
        private final int[] stack = new int[STACK];

        private static boolean isPart(int word) {
            return word == SIGHT || word >= COLUMN && word <= KIND;
        }

        private void putSquare(int square) {
            seen[COLUMN] = square % COLUMNS;
            seen[ROW] = square / COLUMNS;
        }

        private void putNothing() {
            for (int word = 0; word < OWN; word++) {
                seen[word] = 0;
            }
        }

        private int reckon(int[] code, int from, int behind) {
            int top = 0;
            for (int i = Math.max(0, from); i < behind && i < code.length; i++) {
                int mark = code[i];
                int word = ~mark;
                boolean tells = mark >= 0 || isPart(word);
                if (tells && top < STACK) {
                    stack[top] = mark >= 0 ? mark : seen[word];
                    top++;
                } else if (word == NOT && top > 0) {
                    stack[top - 1] = 1 - stack[top - 1];
                } else if (top > 1) {
                    top--;
                    stack[top - 1] = joined(word, stack[top - 1], stack[top]);
                }
            }
            return top > 0 ? stack[top - 1] : 0;
        }

        /** A million times a million is more than an int holds. */
        private static int product(int one, int other) {
            long exact = (long) one * other;
            if (exact > MILLION) {
                return MILLION;
            }
            return exact < -MILLION ? -MILLION : (int) exact;
        }

        private static int joined(int word, int one, int other) {
            switch (word) {
                case '+': return clamped(one + other, -MILLION, MILLION);
                case '-': return clamped(one - other, -MILLION, MILLION);
                case '*': return product(one, other);
                case '/': return other == 0 ? 0 : Math.floorDiv(one, other);
                case '<': return one < other ? 1 : 0;
                case '>': return one > other ? 1 : 0;
                case '=': return one == other ? 1 : 0;
                case MIN: return Math.min(one, other);
                case MAX: return Math.max(one, other);
                case AND: return one & other;
                case OR: return one | other;
                default: return 0;
            }
        }
    }

    /** What the FIELD's text comes to: SIGHT of each SQUARE, PIECES, LIGHT. */
    private static final class Field {
        private final int[] sights = new int[SQUARES];
        private final int[] pieces = new int[SQUARES];
        /** PIECES do not touch one another, so there are at most half as many as SQUARES. */
        private final int[] sizes = new int[SQUARES];
        private final int[] firsts = new int[SQUARES];
        private final int[] waiting = new int[SQUARES];
        /** The SIGHT and the distance by which a SQUARE has most LIGHT; distance 0: not looked for yet. */
        private final int[] lightSight = new int[SQUARES];
        private final int[] lightSpan = new int[SQUARES];
        private int waitingCount;
        private int pieceCount;
        private int seenSide;
        private int seeing;
        private int disc;

        private void build(Script text, Reckoner reckoner) {
            disc = discOf(text);
            reckoner.putNothing();
            seeing = 0;
            for (int square = 0; square < SQUARES; square++) {
                reckoner.putSquare(square);
                sights[square] = square == disc ? 0 : clamped(text.firstSum(SIGHT, reckoner, 0), 0, 9);
                seeing += sights[square] > 0 ? 1 : 0;
                lightSpan[square] = 0;
                pieces[square] = NONE;
            }
            partPieces();
        }

        private static int discOf(Script text) {
            int found = SQUARES - 1;
            for (int i = 0; i < text.size; i++) {
                Statement statement = text.statements[i];
                if (statement.word == DISC) {
                    found = squareAt(statement.column, statement.row);
                }
            }
            return found;
        }

        private void partPieces() {
            pieceCount = 0;
            seenSide = NONE;
            for (int square = 0; square < SQUARES; square++) {
                if (sights[square] > 0 && pieces[square] == NONE) {
                    firsts[pieceCount] = square;
                    sizes[pieceCount] = 0;
                    gather(square);
                    if (seenSide == NONE || sizes[pieceCount] > sizes[seenSide]) {
                        seenSide = pieceCount;
                    }
                    pieceCount++;
                }
            }
        }

        /** All SQUARES that hang together with the one told; each of them waits once. */
        private void gather(int from) {
            waitingCount = 0;
            await(from);
            for (int k = 0; k < waitingCount && k < SQUARES; k++) {
                int square = waiting[k];
                int column = square % COLUMNS;
                if (column > 0) {
                    await(square - 1);
                }
                if (column < COLUMNS - 1) {
                    await(square + 1);
                }
                await(square - COLUMNS);
                await(square + COLUMNS);
            }
        }

        private void await(int square) {
            if (square < 0 || square >= SQUARES || sights[square] == 0 || pieces[square] != NONE) {
                return;
            }
            pieces[square] = pieceCount;
            sizes[pieceCount]++;
            waiting[waitingCount] = square;
            waitingCount++;
        }

        private boolean isIsland(int piece) {
            return piece != NONE && piece != seenSide;
        }

        private boolean isGone(int square) {
            return sights[square] == 0 && square != disc;
        }

        /** The SQUARE from which most comes is the same for each BRIGHT, so it is looked for once. */
        private int lightAt(int square, int bright) {
            if (lightSpan[square] == 0) {
                lookForLight(square);
            }
            return bright * lightSight[square] / (9 * Math.max(1, lightSpan[square]));
        }

        private void lookForLight(int square) {
            int bestSight = 0;
            int bestSpan = 1;
            for (int other = 0; other < SQUARES; other++) {
                if (other != square && sights[other] > 0) {
                    int columns = other % COLUMNS - square % COLUMNS;
                    int rows = other / COLUMNS - square / COLUMNS;
                    int span = 1 + columns * columns + rows * rows;
                    if (sights[other] * bestSpan > bestSight * span) {
                        bestSight = sights[other];
                        bestSpan = span;
                    }
                }
            }
            lightSight[square] = bestSight;
            lightSpan[square] = bestSpan;
        }
    }

    /** One TRIAL. */
    private static final class Trial {
        private int thing;
        private int square;
        private int bright;
        private int sort;
        private int guess;
        private boolean said;
        private int sure;
        private boolean moved;
        private int told;

        private void putShowing(int thing, int square, int bright, int sort) {
            this.thing = thing;
            this.square = square;
            this.bright = bright;
            this.sort = sort;
            moved = false;
            told = NONE;
        }

        private void putAnswer(int guess, boolean said, int sure) {
            this.guess = guess;
            this.said = said;
            this.sure = sure;
        }

        private boolean isRight() {
            return sort == guess;
        }

        private boolean isLed() {
            return told == guess;
        }

        private boolean isOf(int asked) {
            return asked == NONE || asked == thing;
        }

        private int byteAt(int k) {
            switch (k) {
                case 0: return thing;
                case 1: return square;
                case 2: return bright;
                case 3: return sort;
                case 4: return guess;
                case 5: return (said ? 1 : 0) + (moved ? 2 : 0);
                case 6: return sure;
                default: return told == NONE ? NO_VOICE : told;
            }
        }

        private void take(Tape tape, int place) {
            putShowing(tape.at(place), tape.at(place + 1), tape.at(place + 2), tape.at(place + 3));
            int marks = tape.at(place + 5);
            putAnswer(tape.at(place + 4), (marks & 1) != 0, tape.at(place + 6));
            moved = (marks & 2) != 0;
            int voice = tape.at(place + 7);
            told = voice == NO_VOICE ? NONE : voice;
        }
    }

    /** The TRIALS. */
    private static final class Book {
        private final Trial[] trials = new Trial[TRIALS];
        private int size;

        private Book() {
            for (int i = 0; i < TRIALS; i++) {
                trials[i] = new Trial();
            }
        }

        private Trial trialAt(int i) {
            return i >= 0 && i < size ? trials[i] : null;
        }

        private Trial nextFree() {
            return size < TRIALS ? trials[size] : null;
        }
    }

    /** The corridor with its CHAIRS. */
    private static final class Corridor {
        /** Each step parts into two or three: of 6 to the 11 all shares stay whole. */
        private static final long ALL_SHARES = 362797056L;

        private final boolean[] chairs = new boolean[SQUARES];
        private final long[] here = new long[ROWS];
        private final long[] there = new long[ROWS];
        private int chairCount;

        private boolean putChair(int square, boolean on) {
            if (chairs[square] == on) {
                return false;
            }
            chairs[square] = on;
            chairCount += on ? 1 : -1;
            return true;
        }

        /** How many WALKS come through from a row, or, as shares, how much of them. */
        private long passed(int from, boolean shares) {
            for (int row = 0; row < ROWS; row++) {
                here[row] = row == from && !chairs[squareAt(0, row)] ? 1 : 0;
            }
            for (int column = 1; column < COLUMNS; column++) {
                stepTo(column, shares);
            }
            long sum = 0;
            for (int row = 0; row < ROWS; row++) {
                sum += here[row];
            }
            return sum;
        }

        private void stepTo(int column, boolean shares) {
            for (int row = 0; row < ROWS; row++) {
                long came = cameFrom(row - 1, shares) + cameFrom(row, shares) + cameFrom(row + 1, shares);
                there[row] = chairs[squareAt(column, row)] ? 0 : came;
            }
            for (int row = 0; row < ROWS; row++) {
                here[row] = there[row];
            }
        }

        private long cameFrom(int row, boolean shares) {
            if (row < 0 || row >= ROWS) {
                return 0;
            }
            int share = row == 0 || row == ROWS - 1 ? 3 : 2;
            return shares ? share * here[row] : here[row];
        }
    }

    /** Draws that are the same from the same seed. */
    private static final class Dice {
        private long seed;

        private int roll(int sides) {
            seed = (1103515245L * seed + 12345L) % 2147483648L;
            return (int) (seed / 256 % Math.max(1, sides));
        }

        private int guess(int carried, int sort, int sorts) {
            return roll(100) < carried ? sort : roll(sorts);
        }
    }
}
