import java.util.Arrays;

/**
 * Crates with a mark on each face that are tipped from flag to flag of a yard.
 * What every call answers is told by the numbered promises of the document.
 * All rows are made by the constructor and used again: no call makes an object.
 */
public final class TippedCrates {
    public static final int NONE = -1;

    private static final int CANNOT = -2;
    private static final int SIDE = 5;
    private static final int MOST_FLAGS = 25;
    private static final int MOST_CRATES = 3;
    private static final int MOST_SHUT = 8;
    private static final int MOST_PAINT = 10;
    private static final int MOST_MARK = 9;
    private static final int MOST_MINUTES = 60;
    private static final int MOST_SEEDS = 20;
    private static final int MOST_UNDO = 40;
    private static final int MOST_TOLD = 20;
    private static final int MOST_ROW = 5;
    private static final int MOST_RICHEST = 40;
    private static final int MOST_TURNS = 6;
    private static final int SLOTS = 3;
    private static final int WAYS = 4;
    private static final int FACES = 6;
    private static final int LIES = 24;
    private static final int STANDINGS = 600;

    // The faces of a crate, as crate() and the texts number them.
    private static final int TOP = 0;
    private static final int BENEATH = 1;
    private static final int LEFT_SIDE = 4;
    private static final int RIGHT_SIDE = 5;

    // The laws, in the order of their words in a text.
    private static final int PRINTS = 0;
    private static final int TAKES = 1;
    private static final int COSTS = 2;
    private static final int SLIPS = 3;
    private static final int LAWS = 4;
    private static final int MOST_COST = 99;
    private static final int MOST_SLIP = 100;

    private static final int[] STEP_X = {1, 0, -1, 0};
    private static final int[] STEP_Y = {0, 1, 0, -1};
    // By a way, the side that comes beneath and the side that comes on top.
    private static final int[] COMES_BENEATH = {5, 3, 4, 2};
    private static final int[] COMES_TOP = {4, 2, 5, 3};
    private static final int[] TENS = {1, 10, 100, 1000, 10000, 100000, 1000000};

    private final Tape tape;
    private final Plan plan;
    private final Reader reader;
    private final Drays drays;
    private final Turns turns;
    private final Standings standings;
    private final Walks walks;
    private final Rows wayRows;
    private final Past past;
    private final State now;
    private final State spare;

    public TippedCrates() {
        tape = new Tape();
        plan = new Plan();
        reader = new Reader(tape, plan);
        drays = new Drays(plan);
        turns = new Turns();
        standings = new Standings(plan, turns);
        walks = new Walks(standings, drays);
        wayRows = new Rows(standings);
        past = new Past();
        now = new State();
        spare = new State();
        reader.readTape();
        now.start(plan);
    }

    public int feed(int a, int b, int c, int d, int e) {
        if (tape.size > Tape.MOST_BYTES - 20) {
            return NONE;
        }
        tape.push(a);
        tape.push(b);
        tape.push(c);
        tape.push(d);
        tape.push(e);
        return tape.size;
    }

    public int back(int n) {
        if (n < 0 || n > tape.size) {
            return NONE;
        }
        tape.size -= n;
        return tape.size;
    }

    public int read() {
        int fault = reader.readTape();
        tape.size = 0;
        if (fault == 0) {
            now.start(plan);
            past.clear();
            wayRows.clearTold();
        }
        return fault;
    }

    public int place() {
        return reader.faultPlace;
    }

    public int flag(int flag, int what) {
        if (!isFlag(flag)) {
            return NONE;
        }
        switch (what) {
            case 0:
                return now.marks[flag];
            case 1:
                return plan.isShut(flag) ? 1 : 0;
            case 2:
                int crate = now.crateOn(flag);
                return crate == NONE ? CANNOT : crate;
            default:
                return NONE;
        }
    }

    public int crate(int crate, int what) {
        if (!isCrate(crate)) {
            return NONE;
        }
        if (what == FACES) {
            return now.flags[crate];
        }
        if (what == FACES + 1) {
            return now.tips[crate];
        }
        return within(what, 0, FACES - 1) ? now.faces[crate * FACES + what] : NONE;
    }

    public int tells(int crate, int way, int what) {
        if (!isCrate(crate) || !isWay(way)) {
            return NONE;
        }
        drays.lookAt(now, crate, way);
        switch (what) {
            case 0:
                return drays.canTip(now, crate, way) ? 1 : 0;
            case 1:
                return drays.costNow();
            case 2:
                return drays.holdsNow(PRINTS) ? 1 : 0;
            case 3:
                return drays.holdsNow(TAKES) ? 1 : 0;
            case 4:
                return drays.slipNow();
            default:
                return NONE;
        }
    }

    public int tip(int crate, int way) {
        if (!isCrate(crate) || !isWay(way) || !drays.canTip(now, crate, way)) {
            return NONE;
        }
        past.note(now);
        drays.tipOver(now, crate, way);
        return now.flags[crate];
    }

    public boolean paint(int flag, int mark) {
        if (!isFlag(flag) || !isMark(mark) || now.marks[flag] == mark) {
            return false;
        }
        if (plan.isShut(flag) || now.crateOn(flag) != NONE) {
            return false;
        }
        past.note(now);
        now.marks[flag] = mark;
        return true;
    }

    public int minutes(int n) {
        if (!within(n, 0, MOST_MINUTES)) {
            return NONE;
        }
        if (n > 0) {
            past.note(now);
            drays.passMinutes(now, n, plan.seed);
        }
        return now.minute;
    }

    public boolean undo() {
        return past.takeBack(now);
    }

    public int fewest(int crate, int flag, int mark, int i) {
        if (!isCrate(crate) || !isFlag(flag) || !isMark(mark)) {
            return NONE;
        }
        standings.stand(now, crate);
        walks.walkAll();
        return walks.wayTo(walks.firstReading(flag, mark), i);
    }

    public int cheapest(int crate, int flag) {
        if (!isCrate(crate) || !isFlag(flag)) {
            return NONE;
        }
        standings.stand(now, crate);
        return walks.leastCost(now, crate, flag);
    }

    public int never(int crate, int mark) {
        if (!isCrate(crate) || !isMark(mark)) {
            return NONE;
        }
        standings.stand(now, crate);
        walks.walkAll();
        return plan.allFlags() & ~walks.flagsReading(mark);
    }

    public int nearest(int crate, int mark, int what) {
        if (!isCrate(crate) || !isMark(mark) || !within(what, 0, 1)) {
            return NONE;
        }
        standings.stand(now, crate);
        walks.walkAll();
        return walks.nearestReading(mark, what);
    }

    public int spots(int crate) {
        if (!isCrate(crate)) {
            return NONE;
        }
        standings.stand(now, crate);
        walks.walkAll();
        return walks.found;
    }

    public int round(int crate, int what) {
        if (!isCrate(crate) || !within(what, 0, 1)) {
            return NONE;
        }
        standings.stand(now, crate);
        walks.walkAll();
        return what == 0 ? walks.roundAsNow() : walks.roundTurned();
    }

    public int richest(int crate, int n, int what) {
        if (!isCrate(crate) || !within(n, 0, MOST_RICHEST) || !within(what, 0, 1)) {
            return NONE;
        }
        standings.stand(now, crate);
        return walks.richestWalk(n, what);
    }

    public int spell(int crate, int number, int n) {
        if (!isCrate(crate) || !within(n, 1, MOST_TURNS)) {
            return NONE;
        }
        if (number < 0 || number >= TENS[n]) {
            return NONE;
        }
        standings.stand(now, crate);
        return wayRows.spellings(number, n);
    }

    public int game(int crate, int n, int what) {
        if (!isCrate(crate) || !within(n, 1, MOST_TURNS) || !within(what, 0, 1)) {
            return NONE;
        }
        standings.stand(now, crate);
        int mark = wayRows.endOfGame(n);
        return what == 0 ? mark : wayRows.openingWay(mark, n);
    }

    public int tops(int crate) {
        if (!isCrate(crate)) {
            return NONE;
        }
        standings.stand(now, crate);
        walks.walkAll();
        return walks.marksOnTop();
    }

    public int beside(int crate, int other) {
        if (!isCrate(crate) || !isCrate(other) || crate == other) {
            return NONE;
        }
        standings.stand(now, crate);
        walks.walkAll();
        return walks.stepsBeside(now.flags[other]);
    }

    public int alike(int crate, int other) {
        if (!isCrate(crate) || !isCrate(other)) {
            return NONE;
        }
        turns.lookRound(now.faces, crate);
        return turns.canLook(turns.lookOf(now.faces, other, 0)) ? 1 : 0;
    }

    public int looks(int crate) {
        if (!isCrate(crate)) {
            return NONE;
        }
        turns.lookRound(now.faces, crate);
        return turns.countLooks();
    }

    public int mirror(int crate) {
        if (!isCrate(crate)) {
            return NONE;
        }
        turns.lookRound(now.faces, crate);
        return turns.canLook(turns.mirroredLook(now.faces, crate)) ? 1 : 0;
    }

    public int then(int crate, int n, int what) {
        if (!isCrate(crate) || !within(n, 0, MOST_MINUTES) || !within(what, 0, 1)) {
            return NONE;
        }
        foresee(n, plan.seed);
        return what == 0 ? spare.flags[crate] : spare.topOf(crate);
    }

    public int flagIn(int flag, int n) {
        if (!isFlag(flag) || !within(n, 0, MOST_MINUTES)) {
            return NONE;
        }
        foresee(n, plan.seed);
        return spare.marks[flag];
    }

    public int paidIn(int n) {
        if (!within(n, 0, MOST_MINUTES)) {
            return NONE;
        }
        foresee(n, plan.seed);
        return spare.paid;
    }

    public int year(int crate, int mark, int n, int s) {
        if (!isCrate(crate) || !isMark(mark)) {
            return NONE;
        }
        if (!within(n, 0, MOST_MINUTES) || !within(s, 1, MOST_SEEDS)) {
            return NONE;
        }
        int times = 0;
        for (int i = 0; i < s; i++) {
            foresee(n, plan.seed + i);
            if (spare.topOf(crate) == mark) {
                times++;
            }
        }
        return times;
    }

    public int tell(int i, int mark, boolean so) {
        if (!within(i, 1, MOST_ROW) || !isMark(mark) || wayRows.told >= MOST_TOLD) {
            return NONE;
        }
        return wayRows.addTold(i, mark, so);
    }

    public int forget() {
        return wayRows.clearTold();
    }

    public int rows(int k, int crate, int l, int what) {
        if (!canAskRows(k, crate, l) || !within(what, 0, 1)) {
            return NONE;
        }
        standings.stand(now, crate);
        wayRows.findRows(k, l);
        return what == 0 ? wayRows.fitting : wayRows.firstRow;
    }

    public int listen(int k, int crate, int l) {
        if (!canAskRows(k, crate, l)) {
            return NONE;
        }
        standings.stand(now, crate);
        wayRows.findRows(k, l);
        return wayRows.bestToHear(l);
    }

    public boolean hold(int slot) {
        if (!within(slot, 0, SLOTS - 1)) {
            return false;
        }
        past.keep(now, slot);
        return true;
    }

    public boolean restore(int slot) {
        return within(slot, 0, SLOTS - 1) && past.goOnFrom(now, slot);
    }

    public int count(int what) {
        switch (what) {
            case 0:
                return plan.wide;
            case 1:
                return plan.high;
            case 2:
                return plan.crates;
            case 3:
                return now.minute;
            case 4:
                return now.paid;
            case 5:
                return plan.shut;
            case 8:
                return tape.size;
            case 9:
                return past.size;
            case 10:
                return wayRows.told;
            case 11:
                return past.slotsHeld();
            default:
                return countCratesAndFlags(what);
        }
    }

    private int countCratesAndFlags(int what) {
        switch (what) {
            case 6:
                return now.markedFlags();
            case 7:
                return now.sumOfMarks();
            case 12:
                return now.allTips();
            case 13:
                return now.flagsWithCrates();
            case 14:
                return now.greatestMark();
            case 15:
                return stuckCrates();
            case 16:
                return now.sumOfTops();
            default:
                return NONE;
        }
    }

    private int stuckCrates() {
        int stuck = 0;
        for (int crate = 0; crate < plan.crates; crate++) {
            boolean free = false;
            for (int way = 0; way < WAYS; way++) {
                free |= drays.canTip(now, crate, way);
            }
            if (!free) {
                stuck |= 1 << crate;
            }
        }
        return stuck;
    }

    private void foresee(int n, int seed) {
        spare.copyOf(now);
        drays.passMinutes(spare, n, seed);
    }

    private boolean canAskRows(int k, int crate, int l) {
        return within(k, 0, wayRows.told) && isCrate(crate) && within(l, 1, MOST_ROW);
    }

    private boolean isCrate(int crate) {
        return within(crate, 0, plan.crates - 1);
    }

    private boolean isFlag(int flag) {
        return within(flag, 0, plan.wide * plan.high - 1);
    }

    private static boolean isMark(int mark) {
        return within(mark, 0, MOST_MARK);
    }

    private static boolean isWay(int way) {
        return within(way, 0, WAYS - 1);
    }

    private static boolean within(int number, int low, int high) {
        return number >= low && number <= high;
    }

    /** Six faces in a row from a place on, tipped: top, one side, beneath, the other side go round. */
    private static void turnFaces(int[] faces, int from, int way) {
        int sinking = from + COMES_BENEATH[way];
        int rising = from + COMES_TOP[way];
        int oldTop = faces[from + TOP];
        faces[from + TOP] = faces[rising];
        faces[rising] = faces[from + BENEATH];
        faces[from + BENEATH] = faces[sinking];
        faces[sinking] = oldTop;
    }

    /** The bytes that were fed, and the tokens that they are cut into. */
    private static final class Tape {
        static final int MOST_BYTES = 2000;
        static final int MOST_TOKENS = 400;
        static final int MOST_LETTERS = 8;
        static final int MOST_DIGITS = 4;

        // Kinds of tokens: the words by their order in WORDS, these, and signs by their bytes (40 .. 61).
        static final int YARD = 0;
        static final int SHUT = 1;
        static final int PAINT = 2;
        static final int CRATE = 3;
        static final int FIRST_LAW = 4;
        static final int LAST_LAW = 7;
        static final int SEED = 8;
        static final int IF = 9;
        static final int THEN = 10;
        static final int ELSE = 11;
        static final int FIRST_VAR = 12;
        static final int LAST_VAR = 20;
        static final int NAME = 21;
        static final int INT = 22;
        static final int END = 23;
        static final int NO_TOKEN = 24;

        private static final int WORD_COUNT = 21;
        private static final String WORDS = "yard shut paint crate prints takes costs slips seed if then else left top flag over beneath tips minute which way ";
        private static final String SIGNS = ";=+-*/<()";

        int size;
        // Of each token, as far as one too many: its kind, its first byte, and its value, which is
        // an INT's number or the letters of a word or NAME as digits by 27.
        final int[] kinds = new int[MOST_TOKENS + 1];
        final int[] starts = new int[MOST_TOKENS + 1];
        final long[] values = new long[MOST_TOKENS + 1];

        private final byte[] bytes = new byte[MOST_BYTES];
        private final long[] words = new long[WORD_COUNT];
        private int next;

        Tape() {
            int word = 0;
            long letters = 0;
            for (int i = 0; i < WORDS.length(); i++) {
                char letter = WORDS.charAt(i);
                if (letter != ' ') {
                    letters = withLetter(letters, letter);
                } else if (word < WORD_COUNT) {
                    words[word] = letters;
                    word++;
                    letters = 0;
                }
            }
        }

        void push(int four) {
            for (int shift = 24; shift >= 0 && size < MOST_BYTES; shift -= 8) {
                bytes[size] = (byte) (four >> shift);
                size++;
            }
        }

        /** The text's end stands behind its tokens as one more, unless there are too many. */
        void cutIntoTokens() {
            next = 0;
            for (int token = 0; token <= MOST_TOKENS; token++) {
                while (next < size && isBlank(bytes[next])) {
                    next++;
                }
                starts[token] = next;
                if (next >= size) {
                    kinds[token] = END;
                    return;
                }
                cutToken(token);
            }
        }

        private void cutToken(int token) {
            int sign = bytes[next] & 255;
            if (isLetter(sign)) {
                cutLetters(token);
            } else if (isDigit(sign)) {
                cutDigits(token);
            } else {
                kinds[token] = SIGNS.indexOf((char) sign) >= 0 ? sign : NO_TOKEN;
                next++;
            }
        }

        private void cutLetters(int token) {
            int length = 0;
            long letters = 0;
            while (next < size && isLetter(bytes[next])) {
                letters = length < MOST_LETTERS ? withLetter(letters, bytes[next]) : letters;
                length++;
                next++;
            }
            values[token] = letters;
            kinds[token] = length > MOST_LETTERS ? NO_TOKEN : kindOf(letters);
        }

        private int kindOf(long letters) {
            for (int word = 0; word < WORD_COUNT; word++) {
                if (words[word] == letters) {
                    return word;
                }
            }
            return NAME;
        }

        private void cutDigits(int token) {
            int length = 0;
            long number = 0;
            while (next < size && isDigit(bytes[next])) {
                number = length < MOST_DIGITS ? number * 10 + bytes[next] - '0' : number;
                length++;
                next++;
            }
            values[token] = number;
            kinds[token] = length > MOST_DIGITS ? NO_TOKEN : INT;
        }

        private static long withLetter(long letters, int letter) {
            return letters * 27 + letter - 'a' + 1;
        }

        private static boolean isBlank(int sign) {
            return sign == 9 || sign == 10 || sign == 13 || sign == 32;
        }

        private static boolean isLetter(int sign) {
            return sign >= 'a' && sign <= 'z';
        }

        private static boolean isDigit(int sign) {
            return sign >= '0' && sign <= '9';
        }
    }

    /** Reads a text by its grammar, finds its fault, and fills the plan if there is none. */
    private static final class Reader {
        private static final int SYNTAX = 1;
        private static final int ROOM = 2;
        private static final int TWICE = 3;
        private static final int WRONG = 5;
        private static final int BEYOND = 6;
        private static final int MOST_IFS = 4;
        private static final int MOST_DEPTH = 6;

        /** Where the fault of the latest text is, NONE without. */
        int faultPlace = NONE;

        private final Tape tape;
        private final Plan plan;
        private final Laws laws = new Laws();
        /** Which token is looked at. */
        private int token;
        private int fault;
        // A fault of meaning waits until the whole text has been parsed: any of form goes ahead of it.
        private int laterFault;
        private int laterPlace;
        private int wide;
        private int high;
        private int seed;
        private int shuts;
        private int paints;
        private int crates;
        // X, Y (and mark) of each: which flags they are is known once the last yard has been told.
        private final int[] shutAt = new int[MOST_SHUT * 2];
        private final int[] paintAt = new int[MOST_PAINT * 3];
        private final int[] crateAt = new int[MOST_CRATES * 2];
        private final int[] faces = new int[MOST_CRATES * FACES];
        private final long[] names = new long[MOST_CRATES];

        Reader(Tape tape, Plan plan) {
            this.tape = tape;
            this.plan = plan;
        }

        int readTape() {
            begin();
            for (int i = 0; i <= Tape.MOST_TOKENS && fault == 0 && kind() != Tape.END; i++) {
                readTell();
            }
            if (fault == 0 && laterFault != 0) {
                fault = laterFault;
                faultPlace = laterPlace;
            }
            if (fault == 0 && !fitsYard()) {
                fault = BEYOND;
                faultPlace = tape.size;
            }
            if (fault == 0) {
                fillPlan();
            }
            return fault;
        }

        private void begin() {
            fault = 0;
            faultPlace = NONE;
            laterFault = 0;
            laterPlace = NONE;
            wide = 4;
            high = 4;
            seed = 0;
            shuts = 0;
            paints = 0;
            crates = 0;
            laws.clear();
            tape.cutIntoTokens();
            token = 0;
        }

        private int kind() {
            return tape.kinds[token];
        }

        private void fail(int number) {
            if (fault == 0) {
                fault = number;
                faultPlace = tape.starts[token];
            }
        }

        private void failLater(int number, int place) {
            if (laterFault == 0) {
                laterFault = number;
                laterPlace = place;
            }
        }

        private boolean take(int kind) {
            if (fault != 0) {
                return false;
            }
            boolean goesOn = tape.kinds[token] == kind;
            if (goesOn && token < Tape.MOST_TOKENS) {
                token++;
                return true;
            }
            fault = goesOn ? ROOM : SYNTAX;
            faultPlace = tape.starts[token];
            return false;
        }

        private int takeInt(int low, int high) {
            int number = (int) tape.values[token];
            int place = tape.starts[token];
            if (!take(Tape.INT)) {
                return low;
            }
            if (!within(number, low, high)) {
                failLater(WRONG, place);
            }
            return number;
        }

        private void readTell() {
            int word = kind();
            switch (word) {
                case Tape.YARD:
                    take(word);
                    wide = takeInt(2, SIDE);
                    high = takeInt(2, SIDE);
                    break;
                case Tape.SHUT:
                    readShut();
                    break;
                case Tape.PAINT:
                    readPaint();
                    break;
                case Tape.CRATE:
                    readCrate();
                    break;
                case Tape.SEED:
                    take(word);
                    seed = takeInt(0, 9999);
                    break;
                default:
                    readLaw(word);
                    break;
            }
            take(';');
        }

        private void readShut() {
            if (shuts >= MOST_SHUT) {
                fail(ROOM);
                return;
            }
            take(Tape.SHUT);
            shutAt[shuts * 2] = takeInt(0, SIDE - 1);
            shutAt[shuts * 2 + 1] = takeInt(0, SIDE - 1);
            shuts++;
        }

        private void readPaint() {
            if (paints >= MOST_PAINT) {
                fail(ROOM);
                return;
            }
            take(Tape.PAINT);
            paintAt[paints * 3] = takeInt(0, SIDE - 1);
            paintAt[paints * 3 + 1] = takeInt(0, SIDE - 1);
            paintAt[paints * 3 + 2] = takeInt(0, MOST_MARK);
            paints++;
        }

        private void readCrate() {
            if (crates >= MOST_CRATES) {
                fail(ROOM);
                return;
            }
            take(Tape.CRATE);
            takeName();
            crateAt[crates * 2] = takeInt(0, SIDE - 1);
            crateAt[crates * 2 + 1] = takeInt(0, SIDE - 1);
            for (int face = 0; face < FACES; face++) {
                faces[crates * FACES + face] = takeInt(0, MOST_MARK);
            }
            crates++;
        }

        private void takeName() {
            long name = tape.values[token];
            int place = tape.starts[token];
            if (!take(Tape.NAME)) {
                return;
            }
            for (int i = 0; i < crates; i++) {
                if (names[i] == name) {
                    failLater(TWICE, place);
                }
            }
            names[crates] = name;
        }

        private void readLaw(int word) {
            if (!within(word, Tape.FIRST_LAW, Tape.LAST_LAW)) {
                fail(SYNTAX);
                return;
            }
            take(word);
            take('=');
            laws.begin(word - Tape.FIRST_LAW);
            for (int ifs = 0; ifs < MOST_IFS && fault == 0 && kind() == Tape.IF; ifs++) {
                take(Tape.IF);
                readSum(0);
                take('<');
                readSum(0);
                int jump = laws.write(Laws.UNLESS_LESS, 0);
                take(Tape.THEN);
                readSum(0);
                laws.write(Laws.ANSWER, 0);
                laws.leadHere(jump);
                take(Tape.ELSE);
            }
            if (kind() == Tape.IF) {
                fail(ROOM);
            }
            readSum(0);
            laws.write(Laws.ANSWER, 0);
        }

        private void readSum(int depth) {
            readProduct(depth);
            for (int i = 0; i < Tape.MOST_TOKENS && fault == 0 && isEither('+', '-'); i++) {
                int operation = kind() == '+' ? Laws.ADD : Laws.SUBTRACT;
                take(kind());
                readProduct(depth);
                laws.write(operation, 0);
            }
        }

        private void readProduct(int depth) {
            readUnit(depth);
            for (int i = 0; i < Tape.MOST_TOKENS && fault == 0 && isEither('*', '/'); i++) {
                int operation = kind() == '*' ? Laws.MULTIPLY : Laws.DIVIDE;
                take(kind());
                readUnit(depth);
                laws.write(operation, 0);
            }
        }

        private void readUnit(int depth) {
            if (fault != 0) {
                return;
            }
            if (kind() == Tape.INT) {
                laws.write(Laws.NUMBER, (int) tape.values[token]);
                take(Tape.INT);
            } else if (within(kind(), Tape.FIRST_VAR, Tape.LAST_VAR)) {
                laws.write(Laws.VARIABLE, kind() - Tape.FIRST_VAR);
                take(kind());
            } else if (kind() == '(' && depth >= MOST_DEPTH) {
                fail(ROOM);
            } else {
                take('(');
                readSum(depth + 1);
                take(')');
            }
        }

        private boolean isEither(int one, int other) {
            return tape.kinds[token] == one || tape.kinds[token] == other;
        }

        private boolean fitsYard() {
            boolean fits = true;
            for (int i = 0; i < shuts; i++) {
                fits &= isInYard(shutAt[i * 2], shutAt[i * 2 + 1]);
            }
            for (int i = 0; i < paints; i++) {
                fits &= isInYard(paintAt[i * 3], paintAt[i * 3 + 1]);
            }
            for (int i = 0; i < crates; i++) {
                fits &= isInYard(crateAt[i * 2], crateAt[i * 2 + 1]);
                fits &= !isPairIn(shutAt, shuts, i) && !isPairIn(crateAt, i, i);
            }
            return fits;
        }

        private boolean isInYard(int x, int y) {
            return within(x, 0, wide - 1) && within(y, 0, high - 1);
        }

        private boolean isPairIn(int[] pairs, int count, int crate) {
            for (int i = 0; i < count; i++) {
                if (pairs[i * 2] == crateAt[crate * 2] && pairs[i * 2 + 1] == crateAt[crate * 2 + 1]) {
                    return true;
                }
            }
            return false;
        }

        private void fillPlan() {
            plan.layOut(wide, high);
            plan.seed = seed;
            plan.crates = crates;
            plan.laws.copyOf(laws);
            for (int i = 0; i < shuts; i++) {
                plan.shut |= 1 << plan.flagAt(shutAt[i * 2], shutAt[i * 2 + 1]);
            }
            for (int i = 0; i < paints; i++) {
                plan.marks[plan.flagAt(paintAt[i * 3], paintAt[i * 3 + 1])] = paintAt[i * 3 + 2];
            }
            for (int i = 0; i < crates; i++) {
                plan.flags[i] = plan.flagAt(crateAt[i * 2], crateAt[i * 2 + 1]);
            }
            System.arraycopy(faces, 0, plan.faces, 0, faces.length);
        }
    }

    /** The four laws as one row of codes for a stack, and what their variables stand for now. */
    private static final class Laws {
        static final int NUMBER = 0;
        static final int VARIABLE = 1;
        static final int ANSWER = 2;
        static final int UNLESS_LESS = 3;
        static final int ADD = 4;
        static final int SUBTRACT = 5;
        static final int MULTIPLY = 6;
        static final int DIVIDE = 7;
        private static final int CODES = 8;

        // The variables, in the order of their words in a text.
        static final int LEFT = 0;
        static final int TOP_ROW = 1;
        static final int FLAG = 2;
        static final int OVER = 3;
        static final int UNDER = 4;
        static final int TIPS = 5;
        static final int MINUTE = 6;
        static final int WHICH = 7;
        static final int WAY = 8;
        private static final int VARIABLES = 9;

        // A text's tokens each write one code at most; the laws that are not told write eight.
        private static final int MOST_CODES = 420;
        // Seven depths of parentheses, each with two that wait, and the lesser side of an if.
        private static final int MOST_HEIGHT = 24;

        final int[] variables = new int[VARIABLES];

        private final int[] codes = new int[MOST_CODES];
        private final int[] starts = new int[LAWS];
        private final int[] stack = new int[MOST_HEIGHT];
        private int size;

        void clear() {
            size = 0;
            for (int law = 0; law < LAWS; law++) {
                begin(law);
                write(NUMBER, law == PRINTS || law == COSTS ? 1 : 0);
                write(ANSWER, 0);
            }
        }

        void begin(int law) {
            starts[law] = size;
        }

        int write(int code, int with) {
            if (size >= MOST_CODES) {
                return NONE;
            }
            codes[size] = with * CODES + code;
            size++;
            return size - 1;
        }

        /** A jump that was written leads to what is written next. */
        void leadHere(int jump) {
            if (jump != NONE) {
                codes[jump] = size * CODES + UNLESS_LESS;
            }
        }

        void copyOf(Laws other) {
            System.arraycopy(other.codes, 0, codes, 0, other.size);
            System.arraycopy(other.starts, 0, starts, 0, LAWS);
            size = other.size;
        }

        int answer(int law) {
            int next = starts[law];
            int height = 0;
            // Jumps lead onwards only, so that no code is come to twice.
            for (int i = 0; i < size && next < size; i++) {
                int code = codes[next] % CODES;
                int with = codes[next] / CODES;
                next++;
                if (code == ANSWER) {
                    return height > 0 ? stack[height - 1] : 0;
                }
                if (code <= VARIABLE) {
                    if (height >= MOST_HEIGHT) {
                        return 0;
                    }
                    stack[height] = code == NUMBER ? with : variables[with];
                    height++;
                    continue;
                }
                if (height < 2) {
                    return 0;
                }
                height--;
                int left = stack[height - 1];
                int right = stack[height];
                if (code == UNLESS_LESS) {
                    height--;
                    next = left < right ? next : with;
                } else if (code == DIVIDE && right == 0) {
                    return 0;
                } else {
                    stack[height - 1] = code == ADD ? left + right
                            : code == SUBTRACT ? left - right
                            : code == MULTIPLY ? left * right : left / right;
                }
            }
            return 0;
        }
    }

    /** What the text in place tells: the yard and its crates as they are at first, laws, the seed. */
    private static final class Plan {
        int wide;
        int high;
        int seed;
        int crates;
        int shut;
        final int[] marks = new int[MOST_FLAGS];
        final int[] flags = new int[MOST_CRATES];
        final int[] faces = new int[MOST_CRATES * FACES];
        final Laws laws = new Laws();
        final int[] columns = new int[MOST_FLAGS];
        final int[] lines = new int[MOST_FLAGS];
        private final int[] nexts = new int[MOST_FLAGS * WAYS];

        /** An empty yard: nothing shut, no paint, no crates. */
        void layOut(int width, int height) {
            wide = width;
            high = height;
            crates = 0;
            shut = 0;
            Arrays.fill(marks, 0);
            Arrays.fill(flags, NONE);
            for (int y = 0; y < high; y++) {
                for (int x = 0; x < wide; x++) {
                    layFlag(x, y);
                }
            }
        }

        private void layFlag(int x, int y) {
            int flag = flagAt(x, y);
            columns[flag] = x;
            lines[flag] = y;
            for (int way = 0; way < WAYS; way++) {
                int nextX = x + STEP_X[way];
                int nextY = y + STEP_Y[way];
                boolean inside = within(nextX, 0, wide - 1) && within(nextY, 0, high - 1);
                nexts[flag * WAYS + way] = inside ? flagAt(nextX, nextY) : NONE;
            }
        }

        int flagAt(int x, int y) {
            return wide * y + x;
        }

        /** The next flag that way, shut or not; NONE beyond the yard. */
        int nextFlag(int flag, int way) {
            return nexts[flag * WAYS + way];
        }

        boolean isShut(int flag) {
            return (shut >> flag & 1) == 1;
        }

        int allFlags() {
            return (1 << wide * high) - 1;
        }
    }

    /** All that goes on: marks of flags, crates, the minute, what was paid. */
    private static final class State {
        final int[] marks = new int[MOST_FLAGS];
        final int[] flags = new int[MOST_CRATES];
        final int[] faces = new int[MOST_CRATES * FACES];
        final int[] tips = new int[MOST_CRATES];
        int crates;
        int minute;
        int paid;

        void start(Plan plan) {
            System.arraycopy(plan.marks, 0, marks, 0, MOST_FLAGS);
            System.arraycopy(plan.flags, 0, flags, 0, MOST_CRATES);
            System.arraycopy(plan.faces, 0, faces, 0, faces.length);
            Arrays.fill(tips, 0);
            crates = plan.crates;
            minute = 0;
            paid = 0;
        }

        void copyOf(State other) {
            System.arraycopy(other.marks, 0, marks, 0, MOST_FLAGS);
            System.arraycopy(other.flags, 0, flags, 0, MOST_CRATES);
            System.arraycopy(other.faces, 0, faces, 0, faces.length);
            System.arraycopy(other.tips, 0, tips, 0, MOST_CRATES);
            crates = other.crates;
            minute = other.minute;
            paid = other.paid;
        }

        int crateOn(int flag) {
            for (int crate = 0; crate < crates; crate++) {
                if (flags[crate] == flag) {
                    return crate;
                }
            }
            return NONE;
        }

        int topOf(int crate) {
            return faces[crate * FACES + TOP];
        }

        int markedFlags() {
            int marked = 0;
            for (int flag = 0; flag < MOST_FLAGS; flag++) {
                if (marks[flag] > 0) {
                    marked |= 1 << flag;
                }
            }
            return marked;
        }

        int sumOfMarks() {
            int sum = 0;
            for (int mark : marks) {
                sum += mark;
            }
            return sum;
        }

        int greatestMark() {
            int greatest = 0;
            for (int mark : marks) {
                greatest = Math.max(greatest, mark);
            }
            return greatest;
        }

        int allTips() {
            int sum = 0;
            for (int often : tips) {
                sum += often;
            }
            return sum;
        }

        int flagsWithCrates() {
            int taken = 0;
            for (int crate = 0; crate < crates; crate++) {
                taken |= 1 << flags[crate];
            }
            return taken;
        }

        int sumOfTops() {
            int sum = 0;
            for (int crate = 0; crate < crates; crate++) {
                sum += topOf(crate);
            }
            return sum;
        }
    }

    /** What happens to a state: tippings, with what they print, take up and cost, and minutes. */
    private static final class Drays {
        private static final int SLIP_LOTS = 100000;

        private final Plan plan;

        Drays(Plan plan) {
            this.plan = plan;
        }

        boolean canTip(State state, int crate, int way) {
            int next = plan.nextFlag(state.flags[crate], way);
            return next != NONE && !plan.isShut(next) && state.crateOn(next) == NONE;
        }

        /** The laws are asked of a crate's tipping from where it is. */
        void lookAt(State state, int crate, int way) {
            int over = state.faces[crate * FACES + COMES_TOP[way]];
            int under = state.faces[crate * FACES + COMES_BENEATH[way]];
            lookFrom(state, crate, state.flags[crate], way, over, under);
        }

        /** The laws are asked of a crate's tipping from a told flag, with told marks behind it. */
        void lookFrom(State state, int crate, int from, int way, int over, int under) {
            int next = plan.nextFlag(from, way);
            int[] variables = plan.laws.variables;
            variables[Laws.LEFT] = plan.columns[from] + STEP_X[way];
            variables[Laws.TOP_ROW] = plan.lines[from] + STEP_Y[way];
            variables[Laws.FLAG] = next == NONE ? 0 : state.marks[next];
            variables[Laws.OVER] = over;
            variables[Laws.UNDER] = under;
            variables[Laws.TIPS] = state.tips[crate];
            variables[Laws.MINUTE] = state.minute;
            variables[Laws.WHICH] = crate;
            variables[Laws.WAY] = way;
        }

        int costNow() {
            return Math.max(0, Math.min(MOST_COST, plan.laws.answer(COSTS)));
        }

        int slipNow() {
            return Math.max(0, Math.min(MOST_SLIP, plan.laws.answer(SLIPS)));
        }

        boolean holdsNow(int law) {
            return plan.laws.answer(law) > 0;
        }

        /** Only for a tipping that can be. */
        void tipOver(State state, int crate, int way) {
            int next = plan.nextFlag(state.flags[crate], way);
            if (next == NONE) {
                return;
            }
            lookAt(state, crate, way);
            boolean prints = holdsNow(PRINTS);
            boolean takes = !prints && holdsNow(TAKES);
            state.paid += costNow();
            state.flags[crate] = next;
            state.tips[crate]++;
            turnFaces(state.faces, crate * FACES, way);
            int under = crate * FACES + BENEATH;
            if (prints) {
                state.marks[next] = state.faces[under];
            } else if (takes) {
                state.faces[under] = state.marks[next];
            }
        }

        void passMinutes(State state, int minutes, int seed) {
            for (int i = 0; i < minutes; i++) {
                for (int crate = 0; crate < state.crates; crate++) {
                    passFor(state, crate, seed);
                }
                state.minute++;
            }
        }

        private void passFor(State state, int crate, int seed) {
            int which = 8 * state.minute + crate;
            int way = lot(WAYS, seed, which);
            if (!canTip(state, crate, way)) {
                return;
            }
            tipOver(state, crate, way);
            if (!canTip(state, crate, way)) {
                return;
            }
            lookAt(state, crate, way);
            if (lot(100, seed, SLIP_LOTS + which) < slipNow()) {
                tipOver(state, crate, way);
            }
        }

        private static int lot(int n, int seed, int which) {
            int mixed = mix(mix(seed, 215), which);
            return n < 1 ? 0 : (mixed >>> 1) % n;
        }

        private static int mix(int hash, int with) {
            int mixed = (hash ^ with) * 1103515245 + 12345;
            return mixed ^ mixed >>> 15;
        }
    }

    /** The 24 ways in which a crate can lie, as rows of faces; the first one is how it lies now. */
    private static final class Turns {
        /** Which face stands where: six of each way to lie. */
        final int[] faceAt = new int[LIES * FACES];
        /** How it lies behind a tipping: four of each way to lie. */
        final int[] turned = new int[LIES * WAYS];

        private final int[] tried = new int[FACES];
        private final int[] seen = new int[LIES];

        Turns() {
            for (int face = 0; face < FACES; face++) {
                faceAt[face] = face;
            }
            int known = 1;
            for (int lie = 0; lie < LIES; lie++) {
                for (int way = 0; way < WAYS; way++) {
                    System.arraycopy(faceAt, lie * FACES, tried, 0, FACES);
                    turnFaces(tried, 0, way);
                    int behind = findTried(known);
                    if (behind == known && known < LIES) {
                        System.arraycopy(tried, 0, faceAt, known * FACES, FACES);
                        known++;
                    }
                    turned[lie * WAYS + way] = behind;
                }
            }
        }

        private int findTried(int known) {
            for (int lie = 0; lie < known; lie++) {
                boolean same = true;
                for (int face = 0; face < FACES; face++) {
                    same &= faceAt[lie * FACES + face] == tried[face];
                }
                if (same) {
                    return lie;
                }
            }
            return known;
        }

        /** The marks of a crate that lies so, as digits. */
        int lookOf(int[] faces, int crate, int lie) {
            int look = 0;
            for (int face = 0; face < FACES; face++) {
                look = look * 10 + faces[crate * FACES + faceAt[lie * FACES + face]];
            }
            return look;
        }

        /** As lookOf() of how it lies now, with left and right changed about. */
        int mirroredLook(int[] faces, int crate) {
            int look = 0;
            for (int face = 0; face < LEFT_SIDE; face++) {
                look = look * 10 + faces[crate * FACES + face];
            }
            look = look * 10 + faces[crate * FACES + RIGHT_SIDE];
            return look * 10 + faces[crate * FACES + LEFT_SIDE];
        }

        void lookRound(int[] faces, int crate) {
            for (int lie = 0; lie < LIES; lie++) {
                seen[lie] = lookOf(faces, crate, lie);
            }
        }

        boolean canLook(int look) {
            return seenBefore(look, LIES);
        }

        int countLooks() {
            int looks = 0;
            for (int lie = 0; lie < LIES; lie++) {
                if (!seenBefore(seen[lie], lie)) {
                    looks++;
                }
            }
            return looks;
        }

        private boolean seenBefore(int look, int end) {
            for (int lie = 0; lie < end; lie++) {
                if (seen[lie] == look) {
                    return true;
                }
            }
            return false;
        }
    }

    /** The standings of one crate (24 * its flag and how it lies) and the tippings between them. */
    private static final class Standings {
        final Plan plan;
        int start;

        private final Turns turns;
        private final int[] goes = new int[MOST_FLAGS * WAYS];
        private final int[] marks = new int[FACES];

        Standings(Plan plan, Turns turns) {
            this.plan = plan;
            this.turns = turns;
        }

        void stand(State state, int crate) {
            start = state.flags[crate] * LIES;
            System.arraycopy(state.faces, crate * FACES, marks, 0, FACES);
            int others = state.flagsWithCrates() & ~(1 << state.flags[crate]);
            for (int flag = 0; flag < plan.wide * plan.high; flag++) {
                for (int way = 0; way < WAYS; way++) {
                    int next = plan.nextFlag(flag, way);
                    boolean free = next != NONE && ((plan.shut | others) >> next & 1) == 0;
                    goes[flag * WAYS + way] = free ? next : NONE;
                }
            }
        }

        /** The standing behind a tipping; NONE if it can not be. */
        int tipped(int standing, int way) {
            int flag = goes[standing / LIES * WAYS + way];
            return flag == NONE ? NONE : flag * LIES + turns.turned[standing % LIES * WAYS + way];
        }

        int topOf(int standing) {
            return marks[turns.faceAt[standing % LIES * FACES + TOP]];
        }

        int beneathOf(int standing) {
            return marks[turns.faceAt[standing % LIES * FACES + BENEATH]];
        }
    }

    /** Walks of one crate through its standings: fewest tippings, least costs, most marks. */
    private static final class Walks {
        private static final int COST_RING = 100;
        private static final int MOST_TOTAL = MOST_COST * STANDINGS;
        private static final int FAR = MOST_TOTAL + 1;

        /** How many standings walkAll() came to. */
        int found;

        private final Standings standings;
        private final Drays drays;
        // Standings in the order in which walkAll() came to them: by fewest tippings, then lowest ways.
        private final int[] order = new int[STANDINGS];
        private final int[] steps = new int[STANDINGS];
        private final int[] from = new int[STANDINGS];
        private final int[] by = new int[STANDINGS];
        private int[] best = new int[STANDINGS];
        private int[] following = new int[STANDINGS];
        // Standings that wait to be gone on from, in lists by the cost at which they were come to.
        private final int[] heads = new int[COST_RING];
        private final int[] before = new int[STANDINGS];
        private final int[] behind = new int[STANDINGS];
        private int waiting;

        Walks(Standings standings, Drays drays) {
            this.standings = standings;
            this.drays = drays;
        }

        void walkAll() {
            Arrays.fill(steps, NONE);
            found = 0;
            comeTo(standings.start, NONE, NONE);
            for (int i = 0; i < found && i < STANDINGS; i++) {
                for (int way = 0; way < WAYS; way++) {
                    int next = standings.tipped(order[i], way);
                    if (next != NONE && steps[next] == NONE) {
                        comeTo(next, order[i], way);
                    }
                }
            }
        }

        private void comeTo(int standing, int last, int way) {
            if (found >= STANDINGS) {
                return;
            }
            order[found] = standing;
            found++;
            steps[standing] = last == NONE ? 0 : steps[last] + 1;
            from[standing] = last;
            by[standing] = way;
        }

        /** The first standing on a flag with a mark on top; NONE if there is none. */
        int firstReading(int flag, int mark) {
            for (int i = 0; i < found; i++) {
                if (order[i] / LIES == flag && standings.topOf(order[i]) == mark) {
                    return order[i];
                }
            }
            return NONE;
        }

        /** The i-th way of the walk to a standing, or, for NONE, how many there are. */
        int wayTo(int goal, int i) {
            if (goal == NONE) {
                return CANNOT;
            }
            if (i == NONE) {
                return steps[goal];
            }
            if (i < 0 || i >= steps[goal]) {
                return NONE;
            }
            int standing = goal;
            for (int left = steps[goal] - 1 - i; left > 0 && from[standing] != NONE; left--) {
                standing = from[standing];
            }
            return by[standing];
        }

        int flagsReading(int mark) {
            int flags = 0;
            for (int i = 0; i < found; i++) {
                if (standings.topOf(order[i]) == mark) {
                    flags |= 1 << order[i] / LIES;
                }
            }
            return flags;
        }

        int nearestReading(int mark, int what) {
            int flag = CANNOT;
            int tippings = CANNOT;
            for (int i = 0; i < found; i++) {
                int standing = order[i];
                if (standings.topOf(standing) != mark) {
                    continue;
                }
                if (flag == CANNOT || steps[standing] == tippings && standing / LIES < flag) {
                    flag = standing / LIES;
                    tippings = steps[standing];
                }
            }
            return what == 0 ? flag : tippings;
        }

        /** Every tipping can be tipped back, and by one alone no crate stays on its flag. */
        int roundAsNow() {
            return found > 1 ? 2 : CANNOT;
        }

        int roundTurned() {
            for (int i = 1; i < found; i++) {
                if (order[i] / LIES == standings.start / LIES) {
                    return steps[order[i]];
                }
            }
            return CANNOT;
        }

        int marksOnTop() {
            int marks = 0;
            for (int i = 0; i < found; i++) {
                marks |= 1 << standings.topOf(order[i]);
            }
            return marks;
        }

        int stepsBeside(int flag) {
            for (int i = 0; i < found; i++) {
                for (int way = 0; way < WAYS; way++) {
                    if (standings.plan.nextFlag(order[i] / LIES, way) == flag) {
                        return steps[order[i]];
                    }
                }
            }
            return CANNOT;
        }

        int leastCost(State state, int crate, int flag) {
            Arrays.fill(best, FAR);
            Arrays.fill(heads, NONE);
            waiting = 0;
            offer(standings.start, 0);
            // No two that wait lie further apart than one cost, so that a ring of lists is enough.
            for (int cost = 0; cost <= MOST_TOTAL && waiting > 0; cost++) {
                for (int i = 0; i < STANDINGS && heads[cost % COST_RING] != NONE; i++) {
                    int standing = heads[cost % COST_RING];
                    if (standing / LIES == flag) {
                        return cost;
                    }
                    unlink(standing);
                    offerNexts(state, crate, standing);
                }
            }
            return CANNOT;
        }

        private void offerNexts(State state, int crate, int standing) {
            for (int way = 0; way < WAYS; way++) {
                int next = standings.tipped(standing, way);
                if (next == NONE || best[next] <= best[standing]) {
                    continue;
                }
                drays.lookFrom(state, crate, standing / LIES, way, standings.topOf(next), standings.beneathOf(next));
                offer(next, best[standing] + drays.costNow());
            }
        }

        private void offer(int standing, int cost) {
            if (cost >= best[standing]) {
                return;
            }
            if (best[standing] != FAR) {
                unlink(standing);
            }
            int second = heads[cost % COST_RING];
            best[standing] = cost;
            heads[cost % COST_RING] = standing;
            before[standing] = NONE;
            behind[standing] = second;
            if (second != NONE) {
                before[second] = standing;
            }
            waiting++;
        }

        private void unlink(int standing) {
            if (before[standing] == NONE) {
                heads[best[standing] % COST_RING] = behind[standing];
            } else {
                behind[before[standing]] = behind[standing];
            }
            if (behind[standing] != NONE) {
                before[behind[standing]] = before[standing];
            }
            waiting--;
        }

        /** A walk's worth is 4 * its marks and 3 less its first way: more is better in both. */
        int richestWalk(int n, int what) {
            Arrays.fill(best, NONE);
            best[standings.start] = 0;
            for (int step = 0; step < n; step++) {
                Arrays.fill(following, NONE);
                for (int standing = 0; standing < STANDINGS; standing++) {
                    if (best[standing] != NONE) {
                        enrich(standing, step);
                    }
                }
                int[] old = best;
                best = following;
                following = old;
            }
            int most = NONE;
            for (int worth : best) {
                most = Math.max(most, worth);
            }
            if (most == NONE || n == 0 && what == 1) {
                return CANNOT;
            }
            return what == 0 ? most / WAYS : WAYS - 1 - most % WAYS;
        }

        private void enrich(int standing, int step) {
            for (int way = 0; way < WAYS; way++) {
                int next = standings.tipped(standing, way);
                if (next != NONE) {
                    int first = step == 0 ? WAYS - 1 - way : 0;
                    int worth = best[standing] + WAYS * standings.beneathOf(next) + first;
                    following[next] = Math.max(following[next], worth);
                }
            }
        }
    }

    /** Rows of ways of one crate, tried one by one: what they print, who wins by them, what was told of them. */
    private static final class Rows {
        private static final int MOST_ROWS = 1024;

        int told;
        /** How many rows findRows() found, and the first of them as digits by 4, or CANNOT. */
        int fitting;
        int firstRow;

        private final Standings standings;
        private final int[] toldAt = new int[MOST_TOLD];
        private final int[] toldMark = new int[MOST_TOLD];
        private final boolean[] toldSo = new boolean[MOST_TOLD];
        private final int[] heard = new int[MOST_ROW];
        /** How many fitting rows have a mark beneath behind a tipping: ten marks of each tipping. */
        private final int[] tally = new int[MOST_ROW * (MOST_MARK + 1)];
        private int known;
        private int length;

        Rows(Standings standings) {
            this.standings = standings;
        }

        int addTold(int i, int mark, boolean so) {
            if (told >= MOST_TOLD) {
                return NONE;
            }
            toldAt[told] = i;
            toldMark[told] = mark;
            toldSo[told] = so;
            told++;
            return told - 1;
        }

        int clearTold() {
            int were = told;
            told = 0;
            return were;
        }

        void findRows(int firstTold, int rowLength) {
            known = firstTold;
            length = rowLength;
            fitting = 0;
            firstRow = CANNOT;
            Arrays.fill(tally, 0);
            for (int i = 0; i < known; i++) {
                if (toldAt[i] > length) {
                    return;
                }
            }
            tryRows(standings.start, 0, 0);
        }

        private void tryRows(int standing, int depth, int digits) {
            if (depth >= length || depth >= MOST_ROW) {
                noteRow(digits);
                return;
            }
            for (int way = 0; way < WAYS; way++) {
                int next = standings.tipped(standing, way);
                if (next == NONE) {
                    continue;
                }
                heard[depth] = standings.beneathOf(next);
                if (isAsKnown(depth + 1, heard[depth])) {
                    tryRows(next, depth + 1, digits * WAYS + way);
                }
            }
        }

        private boolean isAsKnown(int i, int mark) {
            for (int each = 0; each < known; each++) {
                if (toldAt[each] == i && toldSo[each] != (toldMark[each] == mark)) {
                    return false;
                }
            }
            return true;
        }

        private void noteRow(int digits) {
            if (fitting == 0) {
                firstRow = digits;
            }
            fitting++;
            for (int i = 0; i < length; i++) {
                tally[i * (MOST_MARK + 1) + heard[i]]++;
            }
        }

        /** By what findRows() found: the tipping to hear of next. */
        int bestToHear(int rowLength) {
            if (fitting == 0) {
                return CANNOT;
            }
            int best = NONE;
            int least = MOST_ROWS + 1;
            for (int i = 1; i <= rowLength; i++) {
                int worst = worstLeft(i);
                if (worst < least) {
                    least = worst;
                    best = i;
                }
            }
            return best;
        }

        private int worstLeft(int i) {
            int worst = 0;
            for (int mark = 0; mark <= MOST_MARK; mark++) {
                worst = Math.max(worst, tally[(i - 1) * (MOST_MARK + 1) + mark]);
            }
            return worst;
        }

        /** In how many rows of n ways the marks beneath are the n digits of a number. */
        int spellings(int number, int n) {
            return spellFrom(standings.start, number, n);
        }

        private int spellFrom(int standing, int number, int n) {
            if (n < 1 || n > MOST_TURNS) {
                return 1;
            }
            int digit = number / TENS[n - 1];
            int rest = number % TENS[n - 1];
            int ways = 0;
            for (int way = 0; way < WAYS; way++) {
                int next = standings.tipped(standing, way);
                if (next != NONE && standings.beneathOf(next) == digit) {
                    ways += spellFrom(next, rest, n - 1);
                }
            }
            return ways;
        }

        int endOfGame(int n) {
            return playFrom(standings.start, n, true);
        }

        /** The lowest first way by which a game of n ends with this mark. */
        int openingWay(int mark, int n) {
            for (int way = 0; way < WAYS; way++) {
                int next = standings.tipped(standings.start, way);
                if (next != NONE && playFrom(next, n - 1, false) == mark) {
                    return way;
                }
            }
            return CANNOT;
        }

        /** The mark on top in the end, with so many tippings left and the first or the other at turn. */
        private int playFrom(int standing, int left, boolean first) {
            int best = NONE;
            for (int way = 0; way < WAYS && left > 0 && left <= MOST_TURNS; way++) {
                int next = standings.tipped(standing, way);
                if (next == NONE) {
                    continue;
                }
                int mark = playFrom(next, left - 1, !first);
                if (best == NONE || (first ? mark > best : mark < best)) {
                    best = mark;
                }
            }
            return best == NONE ? standings.topOf(standing) : best;
        }
    }

    /** States gone by that can be come back to: the last ones, to undo, and those in slots. */
    private static final class Past {
        int size;

        private final State[] ring = new State[MOST_UNDO];
        private final State[] slots = new State[SLOTS];
        private final boolean[] held = new boolean[SLOTS];
        private int next;

        Past() {
            for (int i = 0; i < MOST_UNDO; i++) {
                ring[i] = new State();
            }
            for (int slot = 0; slot < SLOTS; slot++) {
                slots[slot] = new State();
            }
        }

        void clear() {
            size = 0;
            for (int slot = 0; slot < SLOTS; slot++) {
                held[slot] = false;
            }
        }

        void note(State state) {
            ring[next].copyOf(state);
            next = next + 1 < MOST_UNDO ? next + 1 : 0;
            size = Math.min(size + 1, MOST_UNDO);
        }

        boolean takeBack(State state) {
            if (size == 0) {
                return false;
            }
            size--;
            next = next > 0 ? next - 1 : MOST_UNDO - 1;
            state.copyOf(ring[next]);
            return true;
        }

        void keep(State state, int slot) {
            slots[slot].copyOf(state);
            held[slot] = true;
        }

        boolean goOnFrom(State state, int slot) {
            if (!held[slot]) {
                return false;
            }
            state.copyOf(slots[slot]);
            size = 0;
            return true;
        }

        int slotsHeld() {
            int count = 0;
            for (boolean one : held) {
                count += one ? 1 : 0;
            }
            return count;
        }
    }
}
