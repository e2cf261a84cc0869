/**
 * Copies of a few cells that seldom meet, with writes for the time being and for good.
 * ../shared/DOC.md says what each call answers and changes; words in capitals are its terms.
 * All rows are made with the object: no call makes another one.
 */
public final class TentativeDesk {
    public static final int NONE = -1;

    private static final int NOT = -2;
    private static final int HAS_IT_NOT = -3;

    private static final int MOST_BYTES = 2000;
    private static final int MOST_COPIES = 5;
    private static final int MOST_CELLS = 6;
    private static final int MOST_FORMS = 6;
    private static final int MOST_WRITES = 60;
    private static final int MOST_CHANCES = 60;
    private static final int MOST_SEEDS = 20;
    private static final int MOST_UNDONE = 40;
    private static final int SESSIONS = 4;
    private static final int SLOTS = 3;
    private static final int LATELY_SHUT = 8;

    private static final int SET = 0;
    private static final int MERGED = 1;
    private static final int IDLE = 2;
    private static final int STUCK = 3;

    private static final int SEE_OWN = 1;
    private static final int NOT_BACK = 2;
    private static final int BEHIND_SEEN = 4;
    private static final int BEHIND_OWN = 8;
    private static final int ALL_PROMISES = 15;

    private final byte[] tape = new byte[MOST_BYTES];
    private int tapeSize;
    private int faultPlace;
    private final Reader reader;
    private Told text;
    private Told spare;
    private final Going now;
    private final Past past;
    private final Going[] slots;
    private final boolean[] held;
    private final Replay replay;
    private final Replay otherReplay;
    private final Season season;

    public TentativeDesk() {
        tapeSize = 0;
        faultPlace = NONE;
        text = new Told();
        spare = new Told();
        reader = new Reader(spare);
        now = new Going();
        past = new Past();
        slots = new Going[SLOTS];
        held = new boolean[SLOTS];
        for (int slot = 0; slot < SLOTS; slot++) {
            slots[slot] = new Going();
        }
        replay = new Replay();
        otherReplay = new Replay();
        season = new Season();
        now.begin(text.copies, text.primary);
    }

    // The tape and the text.

    public int feed(int a, int b, int c, int d, int e) {
        if (tapeSize + 20 > MOST_BYTES) {
            return NONE;
        }
        addBytes(a);
        addBytes(b);
        addBytes(c);
        addBytes(d);
        addBytes(e);
        return tapeSize;
    }

    public int back(int n) {
        if (n < 0 || n > tapeSize) {
            return NONE;
        }
        tapeSize -= n;
        return tapeSize;
    }

    public int read() {
        int fault = reader.readInto(tape, tapeSize, spare);
        faultPlace = reader.placeOfFault();
        tapeSize = 0;
        if (fault == 0) {
            Told ahead = text;
            text = spare;
            spare = ahead;
            beginAnew();
        }
        return fault;
    }

    public int place() {
        return faultPlace;
    }

    // Things done.

    public int make(int session, int copy, int form, int x) {
        boolean noOne = session == NONE;
        if (!(noOne || isSession(session)) || !isCopy(copy) || form < 0 || form >= text.forms) {
            return NONE;
        }
        past.keep(now);
        now.openLog(copy);
        int answer;
        if (!noOne && now.refusesMake(session, copy)) {
            now.refuse(session);
            answer = NOT;
        } else if (now.writes() >= MOST_WRITES) {
            answer = NONE;
        } else {
            answer = now.addWrite(session, copy, form, x);
        }
        now.closeLog(copy);
        return answer;
    }

    public int ask(int session, int copy, int cell) {
        if (!isSession(session) || !isCopy(copy) || !isCell(cell)) {
            return NONE;
        }
        past.keep(now);
        now.openLog(copy);
        boolean refused = now.refusesAsk(session, copy);
        if (refused) {
            now.refuse(session);
        } else {
            replay.play(text, now, copy);
            now.tellTo(session, copy, replay.lastOf(cell));
        }
        now.closeLog(copy);
        return refused ? 0 : 1;
    }

    public int got(int session) {
        return isSession(session) ? now.sessionNumber(Going.TOLD, session) : 0;
    }

    public boolean promise(int session, int promises) {
        if (!isSession(session) || promises < 0 || promises > ALL_PROMISES) {
            return false;
        }
        if (now.sessionNumber(Going.PROMISED, session) == promises) {
            return false;
        }
        past.keep(now);
        now.setPromises(session, promises);
        return true;
    }

    public int meet(int a, int b) {
        if (!areTwoCopies(a, b)) {
            return NONE;
        }
        past.keep(now);
        return now.holdMeeting(a, b);
    }

    public boolean lead(int copy) {
        if (!isCopy(copy) || copy == now.primary() || now.knownOf(copy) < now.ordered()) {
            return false;
        }
        past.keep(now);
        now.openLog(copy);
        now.setPrimary(copy);
        now.closeLog(copy);
        return true;
    }

    public int chance(int n) {
        if (n < 0 || n > MOST_CHANCES) {
            return NONE;
        }
        if (n > 0) {
            past.keep(now);
        }
        for (int i = 0; i < n; i++) {
            int m = now.chances();
            now.addChance();
            if (text.copies > 1) {
                int a = Season.giver(text.copies, text.seed, m);
                now.holdMeeting(a, Season.taker(a, text.copies, text.seed, m));
            }
        }
        return now.chances();
    }

    public boolean undo() {
        return past.bringBack(now);
    }

    // What the copies have.

    public int cell(int copy, int cell, boolean good) {
        if (!isCopy(copy) || !isCell(cell)) {
            return 0;
        }
        replay.play(text, now, copy);
        return good ? replay.cellBehind(cell, now.knownOf(copy)) : replay.lastOf(cell);
    }

    public int log(int copy, int i) {
        if (!isCopy(copy) || i < 0) {
            return NONE;
        }
        replay.line(now, copy);
        return i < replay.length ? replay.log[i] : NONE;
    }

    public int outcome(int copy, int write) {
        if (!isCopy(copy) || !isWrite(write)) {
            return NONE;
        }
        if (!now.hasIt(copy, write)) {
            return NOT;
        }
        replay.play(text, now, copy);
        return replay.outcomeAt(replay.placeOf(write));
    }

    public int write(int write, int what) {
        if (!isWrite(write)) {
            return NONE;
        }
        switch (what) {
            case 0:
                return now.form[write];
            case 1:
                return now.origin[write];
            case 2:
                return now.stamp[write];
            case 3:
                return now.placeInOrder(write);
            case 4:
                return now.holders(write);
            case 5:
                return now.knowers(write);
            default:
                return NONE;
        }
    }

    public int with(int write) {
        return isWrite(write) ? now.x[write] : 0;
    }

    public int copy(int copy, int what) {
        if (!isCopy(copy)) {
            return NONE;
        }
        switch (what) {
            case 0:
                return now.clockOf(copy);
            case 1:
                return Long.bitCount(now.setOf(copy));
            case 2:
                return now.knownOf(copy);
            case 3:
                return now.copyNumber(Going.ROLLED, copy);
            case 4:
                return now.copyNumber(Going.AGAIN, copy);
            case 5:
                return now.copyNumber(Going.OPENED, copy);
            case 6:
                return now.copyNumber(Going.CLOSED, copy);
            case 7:
                return mergedOf(copy);
            case 8:
                return idleOrStuckOf(copy);
            default:
                return NONE;
        }
    }

    public int vector(int copy, int origin) {
        return isCopy(copy) && isCopy(origin) ? now.vectorOf(copy, origin) : NONE;
    }

    public int session(int session, int what) {
        if (!isSession(session) || what < 0 || what > 1) {
            return NONE;
        }
        return now.sessionNumber(what == 0 ? Going.PROMISED : Going.REFUSED, session);
    }

    public int of(int session, int origin, boolean own) {
        if (!isSession(session) || !isCopy(origin)) {
            return NONE;
        }
        return now.sessionVector(own ? Going.OWN : Going.SEEN, session, origin);
    }

    public int shut(int i) {
        return i < 0 || i >= LATELY_SHUT ? NONE : now.latelyClosed(i);
    }

    // How the copies stand to one another.

    public int lacks(int a, int b) {
        return areCopies(a, b) ? Long.bitCount(now.setOf(a) & ~now.setOf(b)) : NONE;
    }

    public int would(int a, int b) {
        return areTwoCopies(a, b) ? now.wouldRoll(a, b) : NONE;
    }

    public int differ(int a, int b) {
        if (!areCopies(a, b)) {
            return NONE;
        }
        replay.play(text, now, a);
        otherReplay.play(text, now, b);
        int bits = 0;
        for (int cell = 0; cell < text.cells; cell++) {
            if (replay.lastOf(cell) != otherReplay.lastOf(cell)) {
                bits |= 1 << cell;
            }
        }
        return bits;
    }

    public int alike(int a, int b) {
        if (!areCopies(a, b)) {
            return NONE;
        }
        return now.areAlike(a, b) ? 1 : 0;
    }

    public int hangs(int copy, int write, int what) {
        if (!isCopy(copy) || !isWrite(write) || what < 0 || what > 1) {
            return NONE;
        }
        if (!now.hasIt(copy, write)) {
            return HAS_IT_NOT;
        }
        replay.play(text, now, copy);
        replay.weigh(text, now, replay.placeOf(write));
        return what == 0 ? replay.hanging : replay.firstHanging;
    }

    public int behind(int copy, int cell, int i) {
        if (!isCopy(copy) || !isCell(cell) || i < 0) {
            return 0;
        }
        replay.play(text, now, copy);
        return replay.cellBehind(cell, i);
    }

    public int fork(int a, int b) {
        if (!areCopies(a, b)) {
            return NONE;
        }
        replay.line(now, a);
        otherReplay.line(now, b);
        return Going.alikeFromStart(replay.log, replay.length, otherReplay.log, otherReplay.length);
    }

    public int key(int copy, int what) {
        if (!isCopy(copy) || what < 0 || what > 1) {
            return NONE;
        }
        replay.play(text, now, copy);
        int most = 0;
        int found = NOT;
        for (int place = 0; place < replay.length; place++) {
            replay.weigh(text, now, place);
            if (replay.hanging > most) {
                most = replay.hanging;
                found = replay.log[place];
            }
        }
        if (found == NOT) {
            return NOT;
        }
        return what == 0 ? found : most;
    }

    public int share(int copy) {
        if (!isCopy(copy)) {
            return NONE;
        }
        int all = now.writes();
        if (all == 0) {
            return 0;
        }
        float part = 1000f * (float) Long.bitCount(now.setOf(copy)) / (float) all;
        return (int) part;
    }

    public int setter(int copy, int cell) {
        if (!isCopy(copy) || !isCell(cell)) {
            return NONE;
        }
        replay.play(text, now, copy);
        return replay.setterOf(cell);
    }

    public int ahead(int copy, int write, int other) {
        if (!isCopy(copy) || !isWrite(write) || !isWrite(other) || write == other) {
            return NONE;
        }
        if (!now.hasIt(copy, write) || !now.hasIt(copy, other)) {
            return NOT;
        }
        replay.line(now, copy);
        return replay.placeOf(write) < replay.placeOf(other) ? 1 : 0;
    }

    public int may(int session, boolean make) {
        if (!isSession(session)) {
            return NONE;
        }
        int bits = 0;
        for (int copy = 0; copy < text.copies; copy++) {
            boolean refused = make ? now.refusesMake(session, copy) : now.refusesAsk(session, copy);
            if (!refused) {
                bits |= 1 << copy;
            }
        }
        return bits;
    }

    public int plan(int what) {
        if (what < 0 || what > 2) {
            return NONE;
        }
        int givers = now.planGivers();
        int takers = now.planTakers(givers);
        if (what == 0) {
            return Integer.bitCount(givers) + Integer.bitCount(takers);
        }
        return what == 1 ? givers : takers;
    }

    public int clash(int copy) {
        if (!isCopy(copy)) {
            return NONE;
        }
        replay.play(text, now, copy);
        for (int place = 0; place < replay.length; place++) {
            if (replay.outcomeAt(place) != SET) {
                return replay.log[place];
            }
        }
        return NOT;
    }

    // What chance would bring.

    public int soon() {
        season.begin(now);
        for (int met = 0; met <= MOST_CHANCES; met++) {
            if (season.isSettled()) {
                return met;
            }
            season.letMeet(text.seed, now.chances() + met);
        }
        return NOT;
    }

    public int year(int n, int s) {
        if (n < 0 || n > MOST_CHANCES || s < 1 || s > MOST_SEEDS) {
            return NONE;
        }
        int settled = 0;
        for (int seed = text.seed; seed < text.seed + s; seed++) {
            season.begin(now);
            for (int met = 0; met < n; met++) {
                season.letMeet(seed, now.chances() + met);
            }
            if (season.isSettled()) {
                settled++;
            }
        }
        return settled;
    }

    // Slots and counts.

    public boolean hold(int slot) {
        if (!isSlot(slot)) {
            return false;
        }
        slots[slot].takeOver(now);
        held[slot] = true;
        return true;
    }

    public boolean restore(int slot) {
        if (!isSlot(slot) || !held[slot]) {
            return false;
        }
        now.takeOver(slots[slot]);
        past.forget();
        return true;
    }

    public int count(int what) {
        switch (what) {
            case 0:
                return text.copies;
            case 1:
                return text.cells;
            case 2:
                return text.forms;
            case 3:
                return now.writes();
            case 4:
                return now.ordered();
            case 5:
                return now.primary();
            case 6:
                return now.chances();
            case 7:
                return now.sumOfCopies(Going.ROLLED);
            case 8:
                return tapeSize;
            case 9:
                return past.kept;
            default:
                return countFurther(what);
        }
    }

    private int countFurther(int what) {
        switch (what) {
            case 10:
                return now.allAlike() ? 1 : 0;
            case 11:
                return slotsHeld();
            case 12:
                return now.sumOfCopies(Going.OPENED);
            case 13:
                return now.sumOfCopies(Going.CLOSED);
            case 14:
                return now.knownToAll();
            case 15:
                return Long.bitCount(now.hadByAll());
            case 16:
                return now.refusedInAll();
            case 17:
                return mergedOf(now.primary());
            case 18:
                return idleOrStuckOf(now.primary());
            default:
                return NONE;
        }
    }

    private void addBytes(int four) {
        for (int shift = 24; shift >= 0 && tapeSize < MOST_BYTES; shift -= 8) {
            tape[tapeSize] = (byte) (four >> shift);
            tapeSize++;
        }
    }

    private void beginAnew() {
        now.begin(text.copies, text.primary);
        past.forget();
        for (int slot = 0; slot < SLOTS; slot++) {
            held[slot] = false;
        }
    }

    private int slotsHeld() {
        int many = 0;
        for (int slot = 0; slot < SLOTS; slot++) {
            if (held[slot]) {
                many++;
            }
        }
        return many;
    }

    private int mergedOf(int copy) {
        replay.play(text, now, copy);
        return replay.manyOf(MERGED);
    }

    private int idleOrStuckOf(int copy) {
        replay.play(text, now, copy);
        return replay.manyOf(IDLE) + replay.manyOf(STUCK);
    }

    private boolean isCopy(int copy) {
        return copy >= 0 && copy < text.copies;
    }

    private boolean areCopies(int a, int b) {
        return isCopy(a) && isCopy(b);
    }

    private boolean areTwoCopies(int a, int b) {
        return areCopies(a, b) && a != b;
    }

    private boolean isCell(int cell) {
        return cell >= 0 && cell < text.cells;
    }

    private boolean isWrite(int write) {
        return write >= 0 && write < now.writes();
    }

    private boolean isSlot(int slot) {
        return slot >= 0 && slot < SLOTS;
    }

    private static boolean isSession(int session) {
        return session >= 0 && session < SESSIONS;
    }

    /** What a text tells. An expression is told in postfix; form f has those from 4 * f on. */
    private static final class Told {
        static final int NUMBER = 0;
        static final int CELL = 1;
        static final int X = 2;
        static final int STAMP = 3;
        static final int ORIGIN = 4;
        static final int OPERATOR = 5;

        static final int PARTS_OF_FORM = 4;
        static final int MOST_STEPS = 400;

        int copies;
        int primary;
        int seed;
        int cells;
        int forms;
        final int[] atFirst = new int[MOST_CELLS];
        final boolean[] needsLess = new boolean[MOST_FORMS];
        final int[] target = new int[MOST_FORMS];
        final int[] elseTarget = new int[MOST_FORMS];
        final int[] from = new int[MOST_FORMS * PARTS_OF_FORM];
        final int[] upTo = new int[MOST_FORMS * PARTS_OF_FORM];
        final int[] kinds = new int[MOST_STEPS];
        final int[] values = new int[MOST_STEPS];
        int steps;

        Told() {
            copies = 3;
        }

        void clear() {
            copies = 3;
            primary = 0;
            seed = 0;
            cells = 0;
            forms = 0;
            steps = 0;
        }

        void addStep(int kind, int value) {
            if (steps < MOST_STEPS) {
                kinds[steps] = kind;
                values[steps] = value;
                steps++;
            }
        }
    }

    /** The tokens of a tape, in rows. A sign's kind is the sign itself. */
    private static final class Tokens {
        static final int END = 0;
        static final int NO_TOKEN = 1;
        static final int NAME = 2;
        static final int INT = 3;

        static final int COPIES = 100;
        static final int PRIMARY = 101;
        static final int CELL = 102;
        static final int FORM = 103;
        static final int NEEDS = 104;
        static final int SETS = 105;
        static final int ELSE = 106;
        static final int SEED = 107;
        static final int X = 108;
        static final int STAMP = 109;
        static final int ORIGIN = 110;

        static final int MOST = 400;

        /** The words in quotes, a byte for each letter, as their kinds count. */
        private static final long[] WORDS = {
            0x636f70696573L, // copies
            0x7072696d617279L, // primary
            0x63656c6cL, // cell
            0x666f726dL, // form
            0x6e65656473L, // needs
            0x73657473L, // sets
            0x656c7365L, // else
            0x73656564L, // seed
            0x78L, // x
            0x7374616d70L, // stamp
            0x6f726967696eL, // origin
        };

        private static final String SIGNS = ";=+-*/<()";
        private static final int LONGEST_NAME = 8;
        private static final int LONGEST_INT = 4;
        /** One token too many is a fault whatever comes behind it: that one and an end are enough. */
        private static final int ROWS = MOST + 2;

        private final int[] kinds = new int[ROWS];
        private final int[] starts = new int[ROWS];
        private final long[] worths = new long[ROWS];
        private int many;
        private int current;
        private int at;

        void takeAll(byte[] tape, int size) {
            int end = Math.min(size, tape.length);
            many = 0;
            current = 0;
            at = 0;
            skipBlanks(tape, end);
            while (at < end && many <= MOST) {
                starts[many] = at;
                takeOne(tape, end);
                many++;
                skipBlanks(tape, end);
            }
            starts[many] = end;
            kinds[many] = END;
            worths[many] = 0;
        }

        int kind() {
            return kinds[current];
        }

        int start() {
            return starts[current];
        }

        int number() {
            return (int) worths[current];
        }

        long name() {
            return worths[current];
        }

        boolean isOneTooMany() {
            return current >= MOST;
        }

        void advance() {
            if (current < many) {
                current++;
            }
        }

        private void skipBlanks(byte[] tape, int end) {
            while (at < end && (tape[at] == 9 || tape[at] == 10 || tape[at] == 13 || tape[at] == 32)) {
                at++;
            }
        }

        private void takeOne(byte[] tape, int end) {
            int first = tape[at];
            if (isLetter(first)) {
                takeWord(tape, end);
            } else if (isDigit(first)) {
                takeInt(tape, end);
            } else {
                kinds[many] = SIGNS.indexOf((char) (first & 255)) >= 0 ? first : NO_TOKEN;
                worths[many] = 0;
                at++;
            }
        }

        private void takeWord(byte[] tape, int end) {
            int start = at;
            long word = 0;
            while (at < end && isLetter(tape[at])) {
                word = word << 8 | tape[at];
                at++;
            }
            worths[many] = word;
            kinds[many] = at - start > LONGEST_NAME ? NO_TOKEN : NAME;
            for (int i = 0; i < WORDS.length && kinds[many] == NAME; i++) {
                if (WORDS[i] == word) {
                    kinds[many] = COPIES + i;
                }
            }
        }

        private void takeInt(byte[] tape, int end) {
            int start = at;
            int number = 0;
            while (at < end && isDigit(tape[at])) {
                number = number * 10 + tape[at] - '0';
                at++;
            }
            worths[many] = number;
            kinds[many] = at - start > LONGEST_INT ? NO_TOKEN : INT;
        }

        private static boolean isLetter(int b) {
            return b >= 'a' && b <= 'z';
        }

        private static boolean isDigit(int b) {
            return b >= '0' && b <= '9';
        }
    }

    /** Reads a text from left to right; the first fault of 1 and 2 goes ahead of the first of the others. */
    private static final class Reader {
        private static final int SYNTAX = 1;
        private static final int ROOM = 2;
        private static final int TWICE = 3;
        private static final int NO_SUCH_NAME = 4;
        private static final int WRONG = 5;
        private static final int NO_SUCH_PRIMARY = 6;

        private static final int MOST_NESTED = 6;
        private static final int MOST_NAMES = MOST_CELLS + MOST_FORMS;
        private static final int MOST_WAITING = 32;

        private final Tokens tokens = new Tokens();
        private final long[] names = new long[MOST_NAMES];
        private final int[] cellNamed = new int[MOST_NAMES];
        private int named;
        private final int[] waiting = new int[MOST_WAITING];
        private int manyWaiting;
        private Told told;
        private int fault;
        private int faultAt;
        private int laterFault;
        private int laterFaultAt;

        Reader(Told first) {
            told = first;
            faultAt = NONE;
        }

        int readInto(byte[] tape, int size, Told into) {
            told = into;
            told.clear();
            named = 0;
            fault = 0;
            faultAt = NONE;
            laterFault = 0;
            laterFaultAt = NONE;
            tokens.takeAll(tape, size);
            for (int tells = 0; tells <= Tokens.MOST && fault == 0 && tokens.kind() != Tokens.END; tells++) {
                int kind = tokens.kind();
                if (kind == Tokens.CELL) {
                    tellCell();
                } else if (kind == Tokens.FORM) {
                    tellForm();
                } else {
                    tellNumber(kind);
                }
            }
            if (told.primary >= told.copies) {
                failLater(NO_SUCH_PRIMARY, size);
            }
            if (fault == 0) {
                fault = laterFault;
                faultAt = laterFaultAt;
            }
            return fault;
        }

        int placeOfFault() {
            return faultAt;
        }

        private void tellNumber(int which) {
            if (which != Tokens.COPIES && which != Tokens.PRIMARY && which != Tokens.SEED) {
                fail(SYNTAX);
                return;
            }
            take(which);
            int at = tokens.start();
            int number = tokens.number();
            take(Tokens.INT);
            take(';');
            if (which == Tokens.COPIES) {
                told.copies = number;
                if (number < 1 || number > MOST_COPIES) {
                    failLater(WRONG, at);
                }
            } else if (which == Tokens.PRIMARY) {
                told.primary = number;
                if (number >= MOST_COPIES) {
                    failLater(WRONG, at);
                }
            } else {
                told.seed = number;
            }
        }

        private void tellCell() {
            int cell = told.cells;
            if (cell >= MOST_CELLS) {
                fail(ROOM);
                return;
            }
            take(Tokens.CELL);
            keepName(cell);
            take(Tokens.NAME);
            told.atFirst[cell] = tokens.number();
            take(Tokens.INT);
            take(';');
            told.cells++;
        }

        private void tellForm() {
            int form = told.forms;
            if (form >= MOST_FORMS) {
                fail(ROOM);
                return;
            }
            int part = form * Told.PARTS_OF_FORM;
            take(Tokens.FORM);
            keepName(NONE);
            take(Tokens.NAME);
            take(Tokens.NEEDS);
            takeExpression(part);
            told.needsLess[form] = tokens.kind() == '<';
            take(told.needsLess[form] ? '<' : '=');
            takeExpression(part + 1);
            take(Tokens.SETS);
            told.target[form] = cellHere();
            take(Tokens.NAME);
            takeExpression(part + 2);
            told.elseTarget[form] = NONE;
            if (tokens.kind() == Tokens.ELSE) {
                take(Tokens.ELSE);
                told.elseTarget[form] = cellHere();
                take(Tokens.NAME);
                takeExpression(part + 3);
            }
            take(';');
            told.forms++;
        }

        /** Puts an expression in postfix; operators wait on a stack for their second side. */
        private void takeExpression(int part) {
            told.from[part] = told.steps;
            manyWaiting = 0;
            int nested = 0;
            boolean unitIsDue = true;
            boolean goesOn = true;
            for (int i = 0; i <= Tokens.MOST && goesOn && fault == 0; i++) {
                int kind = tokens.kind();
                if (unitIsDue && kind == '(') {
                    if (nested >= MOST_NESTED) {
                        fail(ROOM);
                    }
                    nested++;
                    putOff(kind);
                    take(kind);
                } else if (unitIsDue) {
                    addUnit(kind);
                    take(isValue(kind) ? kind : Tokens.NAME);
                    unitIsDue = false;
                } else if (isOperator(kind)) {
                    letOut(rankOf(kind));
                    putOff(kind);
                    take(kind);
                    unitIsDue = true;
                } else if (nested > 0) {
                    nested--;
                    closeNest();
                    take(')');
                } else {
                    goesOn = false;
                }
            }
            letOut(1);
            told.upTo[part] = told.steps;
        }

        private void closeNest() {
            letOut(1);
            if (manyWaiting > 0) {
                manyWaiting--;
            }
        }

        private void addUnit(int kind) {
            switch (kind) {
                case Tokens.INT:
                    told.addStep(Told.NUMBER, tokens.number());
                    break;
                case Tokens.X:
                    told.addStep(Told.X, 0);
                    break;
                case Tokens.STAMP:
                    told.addStep(Told.STAMP, 0);
                    break;
                case Tokens.ORIGIN:
                    told.addStep(Told.ORIGIN, 0);
                    break;
                default:
                    told.addStep(Told.CELL, cellHere());
                    break;
            }
        }

        private void putOff(int operator) {
            if (manyWaiting < MOST_WAITING) {
                waiting[manyWaiting] = operator;
                manyWaiting++;
            }
        }

        /** Lets out what waits and binds so much at least, back to the nest's beginning. */
        private void letOut(int rank) {
            while (manyWaiting > 0 && rankOf(waiting[manyWaiting - 1]) >= rank) {
                manyWaiting--;
                told.addStep(Told.OPERATOR, waiting[manyWaiting]);
            }
        }

        private static int rankOf(int operator) {
            if (operator == '(') {
                return 0;
            }
            return operator == '*' || operator == '/' ? 2 : 1;
        }

        private static boolean isOperator(int kind) {
            return kind == '+' || kind == '-' || kind == '*' || kind == '/';
        }

        private static boolean isValue(int kind) {
            return kind == Tokens.INT || kind == Tokens.X || kind == Tokens.STAMP || kind == Tokens.ORIGIN;
        }

        private void keepName(int cell) {
            if (fault != 0 || tokens.kind() != Tokens.NAME || named >= MOST_NAMES) {
                return;
            }
            if (findName(tokens.name()) != NONE) {
                failLater(TWICE, tokens.start());
            }
            names[named] = tokens.name();
            cellNamed[named] = cell;
            named++;
        }

        /** The cell that the current token names; without one the text has a fault and is not kept. */
        private int cellHere() {
            if (fault != 0 || tokens.kind() != Tokens.NAME) {
                return NONE;
            }
            int found = findName(tokens.name());
            int cell = found == NONE ? NONE : cellNamed[found];
            if (cell == NONE) {
                failLater(NO_SUCH_NAME, tokens.start());
            }
            return cell;
        }

        private int findName(long name) {
            for (int i = 0; i < named; i++) {
                if (names[i] == name) {
                    return i;
                }
            }
            return NONE;
        }

        private void take(int kind) {
            if (fault != 0) {
                return;
            }
            if (tokens.kind() != kind) {
                fail(SYNTAX);
            } else if (tokens.isOneTooMany()) {
                fail(ROOM);
            } else {
                tokens.advance();
            }
        }

        private void fail(int why) {
            if (fault == 0) {
                fault = why;
                faultAt = tokens.start();
            }
        }

        private void failLater(int why, int at) {
            if (laterFault == 0) {
                laterFault = why;
                laterFaultAt = at;
            }
        }
    }

    /**
     * All that goes on. WRITES and the ORDER only grow at their ends, so one row, which counts
     * them, is all that must be kept to go back.
     */
    private static final class Going {
        private static final int COPIES = 0;
        private static final int PRIMARY = 1;
        private static final int WRITES = 2;
        private static final int ORDERED = 3;
        private static final int CHANCES = 4;
        private static final int MANY_LATELY = 5;
        private static final int HAS = 6;
        private static final int KNOWN = HAS + MOST_COPIES;
        static final int ROLLED = KNOWN + MOST_COPIES;
        static final int AGAIN = ROLLED + MOST_COPIES;
        static final int OPENED = AGAIN + MOST_COPIES;
        static final int CLOSED = OPENED + MOST_COPIES;
        private static final int LATELY = CLOSED + MOST_COPIES;
        static final int PROMISED = LATELY + LATELY_SHUT;
        static final int REFUSED = PROMISED + SESSIONS;
        static final int TOLD = REFUSED + SESSIONS;
        static final int SEEN = TOLD + SESSIONS;
        static final int OWN = SEEN + SESSIONS * MOST_COPIES;
        static final int SIZE = OWN + SESSIONS * MOST_COPIES;

        final long[] row = new long[SIZE];
        final int[] form = new int[MOST_WRITES];
        final int[] x = new int[MOST_WRITES];
        final int[] origin = new int[MOST_WRITES];
        final int[] stamp = new int[MOST_WRITES];
        private final int[] order = new int[MOST_WRITES];
        private final int[] before = new int[MOST_WRITES];
        private final int[] after = new int[MOST_WRITES];

        void begin(int copies, int primary) {
            for (int i = 0; i < SIZE; i++) {
                row[i] = 0;
            }
            row[COPIES] = copies;
            row[PRIMARY] = primary;
        }

        void takeOver(Going other) {
            System.arraycopy(other.row, 0, row, 0, SIZE);
            System.arraycopy(other.form, 0, form, 0, MOST_WRITES);
            System.arraycopy(other.x, 0, x, 0, MOST_WRITES);
            System.arraycopy(other.origin, 0, origin, 0, MOST_WRITES);
            System.arraycopy(other.stamp, 0, stamp, 0, MOST_WRITES);
            System.arraycopy(other.order, 0, order, 0, MOST_WRITES);
        }

        int copies() {
            return (int) row[COPIES];
        }

        int primary() {
            return (int) row[PRIMARY];
        }

        int writes() {
            return (int) row[WRITES];
        }

        int ordered() {
            return (int) row[ORDERED];
        }

        int chances() {
            return (int) row[CHANCES];
        }

        int copyNumber(int field, int copy) {
            return (int) row[field + copy];
        }

        int sessionNumber(int field, int session) {
            return (int) row[field + session];
        }

        int sessionVector(int field, int session, int from) {
            return (int) row[field + session * MOST_COPIES + from];
        }

        long setOf(int copy) {
            return row[HAS + copy];
        }

        int knownOf(int copy) {
            return (int) row[KNOWN + copy];
        }

        boolean hasIt(int copy, int write) {
            return (setOf(copy) >> write & 1L) != 0;
        }

        int placeInOrder(int write) {
            for (int place = 0; place < ordered(); place++) {
                if (order[place] == write) {
                    return place;
                }
            }
            return NOT;
        }

        int holders(int write) {
            int bits = 0;
            for (int copy = 0; copy < copies(); copy++) {
                if (hasIt(copy, write)) {
                    bits |= 1 << copy;
                }
            }
            return bits;
        }

        int knowers(int write) {
            int place = placeInOrder(write);
            int bits = 0;
            for (int copy = 0; copy < copies() && place != NOT; copy++) {
                if (place < knownOf(copy)) {
                    bits |= 1 << copy;
                }
            }
            return bits;
        }

        /** The STAMPS of one ORIGIN grow with the numbers of its WRITES: the last one had is the greatest. */
        int vectorOf(int copy, int from) {
            for (int write = writes() - 1; write >= 0; write--) {
                if (origin[write] == from && hasIt(copy, write)) {
                    return stamp[write];
                }
            }
            return 0;
        }

        int clockOf(int copy) {
            int clock = 0;
            for (int from = 0; from < copies(); from++) {
                clock = Math.max(clock, vectorOf(copy, from));
            }
            return clock;
        }

        /** The LOG of a copy that has a set of WRITES and knows so many; answers its length. */
        int layLog(long set, int known, int[] log) {
            long rest = set;
            int length = 0;
            while (length < known && length < MOST_WRITES) {
                log[length] = order[length];
                rest &= ~(1L << order[length]);
                length++;
            }
            for (int write = 0; write < writes(); write++) {
                if ((rest >> write & 1L) != 0 && length < MOST_WRITES) {
                    int at = length;
                    while (at > known && isLater(log[at - 1], write)) {
                        log[at] = log[at - 1];
                        at--;
                    }
                    log[at] = write;
                    length++;
                }
            }
            return length;
        }

        private boolean isLater(int write, int other) {
            if (stamp[write] != stamp[other]) {
                return stamp[write] > stamp[other];
            }
            return origin[write] > origin[other];
        }

        static int alikeFromStart(int[] log, int length, int[] other, int otherLength) {
            int place = 0;
            while (place < length && place < otherLength && log[place] == other[place]) {
                place++;
            }
            return place;
        }

        int addWrite(int session, int copy, int ofForm, int withX) {
            int write = writes();
            form[write] = ofForm;
            x[write] = withX;
            origin[write] = copy;
            stamp[write] = clockOf(copy) + 1;
            row[WRITES]++;
            row[HAS + copy] |= 1L << write;
            if (session != NONE) {
                row[OWN + session * MOST_COPIES + copy] = stamp[write];
            }
            if (copy == primary()) {
                giveOrder(after, layLog(setOf(copy), knownOf(copy), after));
            }
            return write;
        }

        private void giveOrder(int[] log, int length) {
            for (int place = ordered(); place < length; place++) {
                order[place] = log[place];
            }
            row[ORDERED] = length;
            row[KNOWN + primary()] = length;
        }

        int holdMeeting(int a, int b) {
            openLog(b);
            openLog(a);
            int had = layLog(setOf(b), knownOf(b), before);
            boolean bringsAny = (setOf(a) & ~setOf(b)) != 0;
            row[HAS + b] |= row[HAS + a];
            row[KNOWN + b] = Math.max(row[KNOWN + b], row[KNOWN + a]);
            int length = layLog(setOf(b), knownOf(b), after);
            if (b == primary() && bringsAny) {
                giveOrder(after, length);
            }
            int same = alikeFromStart(before, had, after, length);
            row[ROLLED + b] += had - same;
            row[AGAIN + b] += length - same;
            closeLog(a);
            closeLog(b);
            return had - same;
        }

        int wouldRoll(int a, int b) {
            int had = layLog(setOf(b), knownOf(b), before);
            int length = layLog(setOf(a) | setOf(b), Math.max(knownOf(a), knownOf(b)), after);
            return had - alikeFromStart(before, had, after, length);
        }

        void openLog(int copy) {
            row[OPENED + copy]++;
        }

        void closeLog(int copy) {
            row[CLOSED + copy]++;
            for (int i = LATELY_SHUT - 1; i > 0; i--) {
                row[LATELY + i] = row[LATELY + i - 1];
            }
            row[LATELY] = copy;
            row[MANY_LATELY] = Math.min(row[MANY_LATELY] + 1, LATELY_SHUT);
        }

        int latelyClosed(int i) {
            return i < row[MANY_LATELY] ? (int) row[LATELY + i] : NOT;
        }

        void setPrimary(int copy) {
            row[PRIMARY] = copy;
        }

        void addChance() {
            row[CHANCES]++;
        }

        void setPromises(int session, int promises) {
            row[PROMISED + session] = promises;
        }

        void refuse(int session) {
            row[REFUSED + session]++;
        }

        boolean refusesAsk(int session, int copy) {
            return breaks(session, copy, SEE_OWN, OWN) || breaks(session, copy, NOT_BACK, SEEN);
        }

        boolean refusesMake(int session, int copy) {
            return breaks(session, copy, BEHIND_SEEN, SEEN) || breaks(session, copy, BEHIND_OWN, OWN);
        }

        private boolean breaks(int session, int copy, int promise, int field) {
            if ((row[PROMISED + session] & promise) == 0) {
                return false;
            }
            for (int from = 0; from < copies(); from++) {
                if (vectorOf(copy, from) < sessionVector(field, session, from)) {
                    return true;
                }
            }
            return false;
        }

        void tellTo(int session, int copy, int told) {
            row[TOLD + session] = told;
            for (int from = 0; from < copies(); from++) {
                int at = SEEN + session * MOST_COPIES + from;
                row[at] = Math.max(row[at], vectorOf(copy, from));
            }
        }

        boolean areAlike(int a, int b) {
            return setOf(a) == setOf(b) && knownOf(a) == knownOf(b);
        }

        boolean allAlike() {
            for (int copy = 1; copy < copies(); copy++) {
                if (!areAlike(0, copy)) {
                    return false;
                }
            }
            return true;
        }

        long hadByAny() {
            long any = 0;
            for (int copy = 0; copy < copies(); copy++) {
                any |= setOf(copy);
            }
            return any;
        }

        long hadByAll() {
            long all = setOf(0);
            for (int copy = 1; copy < copies(); copy++) {
                all &= setOf(copy);
            }
            return all;
        }

        int knownToAll() {
            int known = knownOf(0);
            for (int copy = 1; copy < copies(); copy++) {
                known = Math.min(known, knownOf(copy));
            }
            return known;
        }

        int sumOfCopies(int field) {
            int sum = 0;
            for (int copy = 0; copy < copies(); copy++) {
                sum += copyNumber(field, copy);
            }
            return sum;
        }

        int refusedInAll() {
            int sum = 0;
            for (int session = 0; session < SESSIONS; session++) {
                sum += sessionNumber(REFUSED, session);
            }
            return sum;
        }

        int planGivers() {
            long any = hadByAny();
            int best = (1 << copies()) - 1;
            for (int bits = (1 << copies()) - 1; bits >= 0; bits--) {
                boolean isAsFew = Integer.bitCount(bits) <= Integer.bitCount(best);
                if (isAsFew && broughtBy(bits) == any) {
                    best = bits;
                }
            }
            return best;
        }

        private long broughtBy(int bits) {
            long brought = setOf(primary());
            for (int copy = 0; copy < copies(); copy++) {
                if ((bits >> copy & 1) != 0) {
                    brought |= setOf(copy);
                }
            }
            return brought;
        }

        /** As few givers as can be bring each something, so with any the PRIMARY orders all. */
        int planTakers(int givers) {
            long any = hadByAny();
            int known = givers == 0 ? ordered() : writes();
            int bits = 0;
            for (int copy = 0; copy < copies(); copy++) {
                boolean isBehind = setOf(copy) != any || knownOf(copy) != known;
                if (copy != primary() && isBehind) {
                    bits |= 1 << copy;
                }
            }
            return bits;
        }
    }

    /** The rows of what went on ahead of the last things done. */
    private static final class Past {
        private final long[][] rows = new long[MOST_UNDONE][Going.SIZE];
        private int next;
        int kept;

        void keep(Going going) {
            System.arraycopy(going.row, 0, rows[next], 0, Going.SIZE);
            next = (next + 1) % MOST_UNDONE;
            kept = Math.min(kept + 1, MOST_UNDONE);
        }

        boolean bringBack(Going going) {
            if (kept == 0) {
                return false;
            }
            next = (next + MOST_UNDONE - 1) % MOST_UNDONE;
            kept--;
            System.arraycopy(rows[next], 0, going.row, 0, Going.SIZE);
            return true;
        }

        void forget() {
            kept = 0;
        }
    }

    /** Does one WRITE on a row of cells. */
    private static final class Doer {
        private static final int MOST_STACKED = 32;

        private final int[] stack = new int[MOST_STACKED];
        private int top;
        private boolean stuck;
        int changed;

        /** Answers how the WRITE comes out; which cell it changed, if any, is told by changed. */
        int perform(Told text, Going going, int write, int[] cells, int base) {
            stuck = false;
            changed = NONE;
            int form = going.form[write];
            int part = form * Told.PARTS_OF_FORM;
            int first = worth(text, part, going, write, cells, base);
            int second = worth(text, part + 1, going, write, cells, base);
            if (stuck) {
                return STUCK;
            }
            boolean holds = text.needsLess[form] ? first < second : first == second;
            int target = holds ? text.target[form] : text.elseTarget[form];
            if (target == NONE) {
                return IDLE;
            }
            int told = worth(text, holds ? part + 2 : part + 3, going, write, cells, base);
            if (stuck) {
                return STUCK;
            }
            cells[base + target] = told;
            changed = target;
            return holds ? SET : MERGED;
        }

        private int worth(Told text, int part, Going going, int write, int[] cells, int base) {
            top = 0;
            for (int step = text.from[part]; step < text.upTo[part] && !stuck; step++) {
                int value = text.values[step];
                switch (text.kinds[step]) {
                    case Told.NUMBER:
                        push(value);
                        break;
                    case Told.CELL:
                        push(cells[base + value]);
                        break;
                    case Told.X:
                        push(going.x[write]);
                        break;
                    case Told.STAMP:
                        push(going.stamp[write]);
                        break;
                    case Told.ORIGIN:
                        push(going.origin[write]);
                        break;
                    default:
                        operate(value);
                        break;
                }
            }
            return top > 0 ? stack[top - 1] : 0;
        }

        private void push(int value) {
            if (top < MOST_STACKED) {
                stack[top] = value;
                top++;
            }
        }

        private void operate(int operator) {
            if (top < 2) {
                return;
            }
            top--;
            int left = stack[top - 1];
            int right = stack[top];
            if (operator == '+') {
                stack[top - 1] = left + right;
            } else if (operator == '-') {
                stack[top - 1] = left - right;
            } else if (operator == '*') {
                stack[top - 1] = left * right;
            } else if (right == 0) {
                stuck = true;
            } else {
                stack[top - 1] = left / right;
            }
        }
    }

    /** The LOG of a copy, done WRITE by WRITE. */
    private static final class Replay {
        private final Doer doer = new Doer();
        final int[] log = new int[MOST_WRITES];
        int length;
        private final int[] outcomes = new int[MOST_WRITES];
        private final int[] changes = new int[MOST_WRITES];
        /** The cells ahead of each place of the LOG, then those at its end. */
        private final int[] cells = new int[(MOST_WRITES + 1) * MOST_CELLS];
        private final int[] without = new int[MOST_CELLS];
        int hanging;
        int firstHanging;

        void line(Going going, int copy) {
            length = going.layLog(going.setOf(copy), going.knownOf(copy), log);
        }

        void play(Told text, Going going, int copy) {
            line(going, copy);
            System.arraycopy(text.atFirst, 0, cells, 0, MOST_CELLS);
            for (int place = 0; place < length; place++) {
                int base = (place + 1) * MOST_CELLS;
                System.arraycopy(cells, base - MOST_CELLS, cells, base, MOST_CELLS);
                outcomes[place] = doer.perform(text, going, log[place], cells, base);
                changes[place] = doer.changed;
            }
        }

        int outcomeAt(int place) {
            return place >= 0 && place < length ? outcomes[place] : NOT;
        }

        int placeOf(int write) {
            for (int place = 0; place < length; place++) {
                if (log[place] == write) {
                    return place;
                }
            }
            return NONE;
        }

        int cellBehind(int cell, int i) {
            return cells[Math.min(i, length) * MOST_CELLS + cell];
        }

        int lastOf(int cell) {
            return cellBehind(cell, length);
        }

        int setterOf(int cell) {
            for (int place = length - 1; place >= 0; place--) {
                if (changes[place] == cell) {
                    return log[place];
                }
            }
            return NOT;
        }

        int manyOf(int outcome) {
            int many = 0;
            for (int place = 0; place < length; place++) {
                if (outcomes[place] == outcome) {
                    many++;
                }
            }
            return many;
        }

        /** Finds what hangs on the WRITE at a place; once all cells are alike, all goes on alike. */
        void weigh(Told text, Going going, int place) {
            hanging = 0;
            firstHanging = NOT;
            if (place < 0 || place >= length) {
                return;
            }
            System.arraycopy(cells, place * MOST_CELLS, without, 0, MOST_CELLS);
            for (int next = place + 1; next < length && !isAsAheadOf(next, text.cells); next++) {
                int outcome = doer.perform(text, going, log[next], without, 0);
                if (outcome != outcomes[next]) {
                    hanging++;
                    if (firstHanging == NOT) {
                        firstHanging = log[next];
                    }
                }
            }
        }

        private boolean isAsAheadOf(int place, int manyCells) {
            for (int cell = 0; cell < manyCells; cell++) {
                if (without[cell] != cells[place * MOST_CELLS + cell]) {
                    return false;
                }
            }
            return true;
        }
    }

    /** Meetings by chance, tried out: which WRITES each copy has and how many it knows is enough. */
    private static final class Season {
        private final long[] has = new long[MOST_COPIES];
        private final int[] known = new int[MOST_COPIES];
        private int copies;
        private int primary;
        private int writes;
        private int ordered;

        void begin(Going going) {
            copies = going.copies();
            primary = going.primary();
            writes = going.writes();
            ordered = going.ordered();
            for (int copy = 0; copy < copies; copy++) {
                has[copy] = going.setOf(copy);
                known[copy] = going.knownOf(copy);
            }
        }

        void letMeet(int seed, int m) {
            if (copies < 2) {
                return;
            }
            int a = giver(copies, seed, m);
            int b = taker(a, copies, seed, m);
            boolean bringsAny = (has[a] & ~has[b]) != 0;
            has[b] |= has[a];
            known[b] = Math.max(known[b], known[a]);
            if (b == primary && bringsAny) {
                ordered = Long.bitCount(has[b]);
                known[b] = ordered;
            }
        }

        boolean isSettled() {
            for (int copy = 1; copy < copies; copy++) {
                if (has[copy] != has[0] || known[copy] != known[0]) {
                    return false;
                }
            }
            return ordered == writes;
        }

        static int giver(int copies, int seed, int m) {
            return lot(copies, seed, 2 * m);
        }

        static int taker(int a, int copies, int seed, int m) {
            return copies < 2 ? a : (a + 1 + lot(copies - 1, seed, 2 * m + 1)) % copies;
        }

        private static int lot(int n, int seed, int which) {
            int h = stir(stir(seed, 223), which);
            return n < 1 ? 0 : (h >>> 1) % n;
        }

        private static int stir(int h, int it) {
            int mixed = (h ^ it) * 1103515245 + 12345;
            return mixed ^ mixed >>> 15;
        }
    }
}
