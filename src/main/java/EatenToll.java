import java.util.Arrays;

/** Gates at which the toll is eaten; README.md says how to use them. */
public final class EatenToll {
    public static final int NONE = -1;

    private static final int CANNOT = -2;
    private static final int NO_NET = -1000000;

    private static final int GATES = 2;
    private static final int SLOTS = 3;
    private static final int LAST_HOUR = 23;
    private static final int MOST_HOURS = 240;
    private static final int SICK_HOURS = 12;
    private static final int MOST_BITES = 6;
    private static final int MOST_DISHES = 4;
    private static final int MOST_MEN = 8;
    private static final int MOST_BELLIES = 6;
    private static final int MOST_GOINGS = 20;
    private static final int MOST_DEBTS = 20;
    private static final int MOST_LAWS = 8;
    private static final int MOST_IFS = 4;
    private static final int MOST_NESTED = 6;
    private static final int MOST_TOKENS = 400;
    private static final int MOST_BYTES = 2000;
    private static final int MOST_ENTRIES = 30;
    private static final int MOST_UNDONE = 30;
    private static final int MOST_ROOM = 99;
    private static final int SETS = 1 << MOST_MEN;

    // What a text may tell several of; the first five are numbered as count() numbers them.
    private static final int DISHES = 0;
    private static final int MEN = 1;
    private static final int BELLIES = 2;
    private static final int GOINGS = 3;
    private static final int DEBTS = 4;
    private static final int LAWS = 5;
    private static final int KINDS_TOLD = 6;
    private static final int[] MOST_TOLD = {
        MOST_DISHES, MOST_MEN, MOST_BELLIES, MOST_GOINGS, MOST_DEBTS, MOST_LAWS };

    private static final int SYNTAX = 1;
    private static final int ROOM = 2;
    private static final int TWICE = 3;
    private static final int UNKNOWN_NAME = 4;
    private static final int WRONG = 5;

    // Kinds of tokens: a sign's kind is its byte, a word's is WORD plus its number in WORDS.
    private static final int END = 0;
    private static final int NO_TOKEN = 1;
    private static final int NAME = 2;
    private static final int INT = 3;
    private static final int WORD = 256;
    private static final int WORD_DISH = WORD;
    private static final int WORD_MAN = WORD + 1;
    private static final int WORD_BELLY = WORD + 2;
    private static final int WORD_GOES = WORD + 3;
    private static final int WORD_OWE = WORD + 4;
    private static final int WORD_LAW = WORD + 5;
    private static final int WORD_HATES = WORD + 6;
    private static final int WORD_ILL = WORD + 7;
    private static final int WORD_FAST = WORD + 8;
    private static final int WORD_IF = WORD + 9;
    private static final int WORD_THEN = WORD + 10;
    private static final int WORD_ELSE = WORD + 11;
    private static final int WORD_HOUR = WORD + 12;
    private static final int WORD_SICK = WORD + 18;
    private static final int WORD_COUNT = 19;
    private static final String WORDS =
        "dish man belly goes owe law hates ill fast if then else hour load room full ahead left sick ";
    private static final String SIGNS = ";=+-*/<()";
    private static final int LONGEST_NAME = 8;
    private static final int LONGEST_INT = 4;

    // The variables of a law, in the order of their words.
    private static final int VAR_HOUR = 0;
    private static final int VAR_LOAD = 1;
    private static final int VAR_ROOM = 2;
    private static final int VAR_FULL = 3;
    private static final int VAR_AHEAD = 4;
    private static final int VAR_LEFT = 5;
    private static final int VAR_SICK = 6;
    private static final int VARS = 7;

    // A step of a law's code: what is done in its low bits, with what above them.
    private static final int STEP_BITS = 3;
    private static final int STEP_MASK = 7;
    private static final int STEP_INT = 0;
    private static final int STEP_VAR = 1;
    private static final int STEP_PLUS = 2;
    private static final int STEP_MINUS = 3;
    private static final int STEP_TIMES = 4;
    private static final int STEP_OVER = 5;
    private static final int STEP_UNLESS_LESS = 6;
    private static final int STEP_END = 7;
    // Each of 7 levels lets two operands wait, or two operators and a '(': 20 at most.
    private static final int STACK = 24;

    // Far above every sum of bites, bulks, fees and gains.
    private static final int HUGE = 1000000000;

    private final Tape tape = new Tape();
    private final Told told = new Told();
    private final Told draft = new Told();
    private final Reader reader = new Reader(tape, draft);
    private final Scene now = new Scene();
    private final Scene trial = new Scene();
    private final Plate plate = new Plate();
    private final Plate otherPlate = new Plate();
    private final Keeper keeper = new Keeper(told);
    private final Memory memory = new Memory();
    private final Mouths mouths = new Mouths(told);
    private final Planner planner = new Planner(told, keeper, trial, plate);
    private final Guesser guesser = new Guesser(told, keeper, trial, plate, otherPlate);
    private final Book book = new Book(told, keeper, trial, plate);

    public EatenToll() {
    }

    public int feed(int a, int b, int c, int d, int e) {
        if (!tape.hasRoomFor(20)) {
            return NONE;
        }
        tape.append(a);
        tape.append(b);
        tape.append(c);
        tape.append(d);
        tape.append(e);
        return tape.length;
    }

    public int back(int n) {
        if (n < 0 || n > tape.length) {
            return NONE;
        }
        tape.length -= n;
        return tape.length;
    }

    public int read() {
        reader.readTape();
        tape.length = 0;
        if (reader.fault == 0) {
            told.copyFrom(draft);
            now.begin(told);
            memory.forgetAll();
            book.entries = 0;
        }
        return reader.fault;
    }

    public int place() {
        return reader.faultPlace;
    }

    public int man(int man, int what) {
        if (!isMan(man)) {
            return NONE;
        }
        switch (what) {
            case 0:
                return now.full(man);
            case 1:
                return told.belly[man] - now.full(man);
            case 2:
                return now.sickHours(man);
            case 3:
                return now.swallowedBy(man);
            case 4:
                return told.load[man];
            case 5:
                return now.passedToday(man);
            default:
                return NONE;
        }
    }

    public int dish(int dish, int what) {
        if (!isDish(dish)) {
            return NONE;
        }
        switch (what) {
            case 0:
                return now.store(dish);
            case 1:
                return told.bulk[dish];
            case 2:
                return told.gain[dish];
            case 3:
                return now.swallowedOf(dish);
            default:
                return NONE;
        }
    }

    public int toll(int man, int gate, int dish) {
        if (!isMan(man) || !isGate(gate) || !isDishOrAll(dish)) {
            return NONE;
        }
        keeper.lay(now, man, gate, 0, plate);
        return dish == NONE ? plate.bulk : plate.bites[dish];
    }

    public int may(int man, int gate) {
        if (!isMan(man) || !isGate(gate)) {
            return NONE;
        }
        keeper.lay(now, man, gate, 0, plate);
        return keeper.whyNot(now, man, plate, true);
    }

    public int pass(int man, int gate) {
        int why = may(man, gate);
        if (why == 0) {
            memory.remember(now);
            keeper.swallow(now, man, gate, plate);
        }
        return why;
    }

    public int later(int n) {
        if (n < 0 || n > MOST_HOURS) {
            return NONE;
        }
        if (n > 0) {
            memory.remember(now);
        }
        for (int i = 0; i < n; i++) {
            now.letHourGoBy(told);
        }
        return now.hour();
    }

    public boolean undo() {
        return memory.takeBack(now);
    }

    public int when(int man, int gate) {
        if (!isMan(man) || !isGate(gate)) {
            return NONE;
        }
        return guesser.hoursUntilMay(now, man, gate);
    }

    public int hire(int man, int gate, int what) {
        if (!isMan(man) || !isGate(gate) || what < 0 || what > 1) {
            return NONE;
        }
        keeper.lay(now, man, gate, 0, plate);
        if (!keeper.storesHave(now, plate)) {
            return CANNOT;
        }
        int bits = mouths.cheapest(plate, keeper.openRoom(now, man), told.hates[man]);
        return what == 1 || bits == CANNOT ? bits : mouths.feeOf(bits);
    }

    public int tongue(int man, int gate) {
        if (!isMan(man) || !isGate(gate)) {
            return NONE;
        }
        keeper.lay(now, man, gate, 0, plate);
        if (!keeper.storesHave(now, plate)) {
            return CANNOT;
        }
        return plate.number - mouths.mostSwallowed(plate, keeper.openRoom(now, man), told.hates[man]);
    }

    public int together(int man, int other, int gate) {
        int fewest = split(man, other, gate);
        return fewest == NONE ? NONE : fewest == CANNOT ? 0 : 1;
    }

    public int split(int man, int other, int gate) {
        if (!isMan(man) || !isMan(other) || man == other || !isGate(gate)) {
            return NONE;
        }
        keeper.lay(now, man, gate, 0, plate);
        keeper.lay(now, other, gate, 1, otherPlate);
        plate.addAll(otherPlate, told);
        if (!keeper.storesHave(now, plate)) {
            return CANNOT;
        }
        int forFirst = keeper.openRoom(now, man);
        int forOther = keeper.openRoom(now, other);
        return mouths.fewestByFirst(plate, forFirst, told.hates[man], forOther, told.hates[other]);
    }

    public long odds(int k, int a, int b) {
        if (k < 0 || k > 18 || b < 1 || b > 10 || a < 0 || a > b) {
            return NONE;
        }
        long ways = 1;
        for (int i = 0; i < k; i++) {
            ways *= b - a;
        }
        return ways;
    }

    public int soonest(int set, int gate) {
        if (!isSet(set) || !isGate(gate)) {
            return NONE;
        }
        return planner.planDay(now, set, gate, Planner.WORTH_NOTHING);
    }

    public int least(int set, int gate, boolean gain) {
        if (!isSet(set) || !isGate(gate)) {
            return NONE;
        }
        planner.planDay(now, set, gate, gain ? Planner.WORTH_GAIN : Planner.WORTH_BULK);
        return planner.worthOfAll();
    }

    public int crowd(int set, int gate, int what) {
        if (!isSet(set) || !isGate(gate) || what < 0 || what > 1) {
            return NONE;
        }
        planner.planDay(now, set, gate, Planner.WORTH_NOTHING);
        int bits = planner.largestCrowd();
        return what == 1 ? bits : Integer.bitCount(bits);
    }

    public int hourOf(int man, int gate, boolean gain) {
        if (!isMan(man) || !isGate(gate)) {
            return NONE;
        }
        return guesser.bestHour(now, man, gate, gain);
    }

    public int best(int set, int dish) {
        if (!isSet(set) || !isDishOrAll(dish)) {
            return NONE;
        }
        guesser.findBestLaw(now, set);
        return dish == NONE ? guesser.bestGain : guesser.bestLaw[dish];
    }

    public int day(int what) {
        if (what < 0 || what > 3) {
            return NONE;
        }
        guesser.liveDay(now);
        switch (what) {
            case 0:
            case 1:
                return trial.gainAt(what);
            case 2:
                return guesser.passedMen;
            default:
                return guesser.wentAway;
        }
    }

    public int net(int man) {
        return isMan(man) ? told.net[man] : NO_NET;
    }

    public int cleared() {
        return told.men() - mouths.mostQuits();
    }

    public int gained(int gate) {
        return isGate(gate) ? now.gainAt(gate) : NONE;
    }

    public int enter(int man, int gate, int hour) {
        if (!isMan(man) || !isGate(gate) || hour < 0 || hour > LAST_HOUR) {
            return NONE;
        }
        return book.write(man, gate, hour);
    }

    public int burn() {
        int entries = book.entries;
        book.entries = 0;
        return entries;
    }

    public int judge(int k) {
        return book.has(k) ? book.firstRefused(k, NONE) : NONE;
    }

    public int odd(int k) {
        return book.has(k) ? book.oddOne(k) : NONE;
    }

    public int led(int k, int man, int dish) {
        boolean known = book.has(k) && (man == NONE || isMan(man)) && isDishOrAll(dish);
        return known ? book.bitesLed(k, man, dish) : NONE;
    }

    public boolean hold(int slot) {
        return memory.keepIn(slot, now);
    }

    public boolean restore(int slot) {
        return memory.takeUp(slot, now);
    }

    public int count(int what) {
        if (what >= DISHES && what <= DEBTS) {
            return told.counts[what];
        }
        switch (what) {
            case 5:
                return now.hour();
            case 6:
                return now.dayNumber();
            case 7:
                return book.entries;
            case 8:
                return tape.length;
            case 9:
                return memory.size;
            case 10:
                return Integer.bitCount(memory.heldSlots);
            case 11:
            case 12:
                return now.ahead(what - 11);
            default:
                return NONE;
        }
    }

    private boolean isMan(int man) {
        return man >= 0 && man < told.men();
    }

    private boolean isDish(int dish) {
        return dish >= 0 && dish < told.dishes();
    }

    private boolean isDishOrAll(int dish) {
        return dish == NONE || isDish(dish);
    }

    private boolean isSet(int set) {
        return set >= 0 && set < 1 << told.men();
    }

    private static boolean isGate(int gate) {
        return gate >= 0 && gate < GATES;
    }

    /** The bytes fed, and the tokens in them. */
    private static final class Tape {
        private final byte[] bytes = new byte[MOST_BYTES];
        private final long[] words = new long[WORD_COUNT];
        // Of each token: its kind, where it starts, its number or its name.
        private final int[] kinds = new int[MOST_TOKENS + 1];
        private final int[] starts = new int[MOST_TOKENS + 1];
        private final long[] values = new long[MOST_TOKENS + 1];
        private int length;
        private int at;

        Tape() {
            int word = 0;
            for (int i = 0; i < WORDS.length() && word < WORD_COUNT; i++) {
                char c = WORDS.charAt(i);
                if (c == ' ') {
                    word++;
                } else {
                    words[word] = withLetter(words[word], c);
                }
            }
        }

        boolean hasRoomFor(int more) {
            return length + more <= MOST_BYTES;
        }

        void append(int four) {
            for (int shift = 24; shift >= 0 && length < MOST_BYTES; shift -= 8) {
                bytes[length] = (byte) (four >> shift);
                length++;
            }
        }

        /** Nothing behind one token too many, or behind what is none, can matter. */
        void scan() {
            at = 0;
            for (int token = 0; token <= MOST_TOKENS; token++) {
                while (at < length && isBlank(bytes[at])) {
                    at++;
                }
                starts[token] = at;
                kinds[token] = scanToken(token);
                if (kinds[token] == END || kinds[token] == NO_TOKEN) {
                    return;
                }
            }
        }

        private int scanToken(int token) {
            if (at >= length) {
                return END;
            }
            if (isLetter(bytes[at])) {
                return scanLetters(token);
            }
            if (isDigit(bytes[at])) {
                return scanDigits(token);
            }
            int sign = bytes[at];
            at++;
            return sign > 0 && SIGNS.indexOf((char) sign) >= 0 ? sign : NO_TOKEN;
        }

        private int scanLetters(int token) {
            int from = at;
            long name = 0;
            while (at < length && isLetter(bytes[at])) {
                name = withLetter(name, bytes[at]);
                at++;
            }
            values[token] = name;
            if (at - from > LONGEST_NAME) {
                return NO_TOKEN;
            }
            for (int word = 0; word < WORD_COUNT; word++) {
                if (words[word] == name) {
                    return WORD + word;
                }
            }
            return NAME;
        }

        private int scanDigits(int token) {
            int from = at;
            int number = 0;
            while (at < length && isDigit(bytes[at])) {
                number = number * 10 + bytes[at] - '0';
                at++;
            }
            values[token] = number;
            return at - from > LONGEST_INT ? NO_TOKEN : INT;
        }

        /** Eight letters go into one long, so that names are compared as numbers. */
        private static long withLetter(long letters, int letter) {
            return letters * 32 + (letter - 'a' + 1);
        }

        private static boolean isBlank(int c) {
            return c == 9 || c == 10 || c == 13 || c == 32;
        }

        private static boolean isLetter(int c) {
            return c >= 'a' && c <= 'z';
        }

        private static boolean isDigit(int c) {
            return c >= '0' && c <= '9';
        }
    }

    /** Reads the tape's tells into a draft, and finds the fault that counts. */
    private static final class Reader {
        private final Tape tape;
        private final Told draft;
        private final int[] waiting = new int[STACK];
        private int waitingSize;
        private int taken;
        private int kind;
        private int fault;
        private int faultPlace = NONE;
        // The first of the faults that count only where the form is right.
        private int slip;
        private int slipPlace;
        private int tookPlace;
        private long tookValue;

        Reader(Tape tape, Told draft) {
            this.tape = tape;
            this.draft = draft;
        }

        void readTape() {
            draft.clear();
            tape.scan();
            taken = 0;
            kind = tape.kinds[0];
            fault = 0;
            faultPlace = NONE;
            slip = 0;
            for (int i = 0; i <= MOST_TOKENS && fault == 0 && kind != END; i++) {
                switch (kind) {
                    case WORD_DISH:
                        readDish();
                        break;
                    case WORD_MAN:
                        readMan();
                        break;
                    case WORD_BELLY:
                        readBelly();
                        break;
                    case WORD_GOES:
                        readGoing();
                        break;
                    case WORD_OWE:
                        readDebt();
                        break;
                    case WORD_LAW:
                        readLaw();
                        break;
                    default:
                        fail(SYNTAX);
                        break;
                }
            }
            if (fault == 0 && slip != 0) {
                fault = slip;
                faultPlace = slipPlace;
            }
        }

        private void readDish() {
            takeFirst(DISHES);
            long name = newName();
            int bulk = number(1, 9);
            int gain = number(0, 99);
            int store = number(0, 999);
            if (take(';')) {
                draft.addDish(name, bulk, gain, store);
            }
        }

        private void readMan() {
            takeFirst(MEN);
            long name = newName();
            int belly = number(0, 99);
            int full = number(0, belly);
            int empties = number(0, 9);
            int load = number(0, 999);
            if (fault != 0) {
                return;
            }
            int man = draft.addMan(name, belly, full, empties, load);
            for (int i = 0; i < MOST_TOKENS && fault == 0 && isTrait(); i++) {
                readTrait(man);
            }
            take(';');
        }

        private boolean isTrait() {
            return kind == WORD_HATES || kind == WORD_ILL || kind == WORD_FAST;
        }

        private void readTrait(int man) {
            if (kind == WORD_FAST) {
                take(WORD_FAST);
                int from = number(0, LAST_HOUR);
                int to = number(from, LAST_HOUR);
                draft.setFast(man, from, to);
            } else if (kind == WORD_HATES) {
                take(WORD_HATES);
                draft.setHate(man, toldDish());
            } else {
                take(WORD_ILL);
                int dish = toldDish();
                draft.setIll(man, dish, number(1, MOST_BITES));
            }
        }

        private void readBelly() {
            takeFirst(BELLIES);
            long name = newName();
            int room = number(0, MOST_ROOM);
            int fee = number(0, 99);
            if (take(';')) {
                draft.addBelly(name, room, fee);
            }
        }

        private void readGoing() {
            takeFirst(GOINGS);
            int man = toldMan();
            int hour = number(0, LAST_HOUR);
            if (take(';')) {
                draft.addGoing(man, hour);
            }
        }

        private void readDebt() {
            takeFirst(DEBTS);
            int debtor = toldMan();
            int owed = toldMan();
            if (fault == 0 && debtor >= 0 && owed == debtor) {
                note(WRONG);
            }
            int bites = number(1, 99);
            if (take(';')) {
                draft.addDebt(debtor, owed, bites);
            }
        }

        private void readLaw() {
            takeFirst(LAWS);
            int gate = number(0, GATES - 1);
            int dish = toldDish();
            take('=');
            draft.beginLaw(gate, dish);
            for (int ifs = 0; ifs <= MOST_IFS && fault == 0 && kind == WORD_IF; ifs++) {
                if (ifs == MOST_IFS) {
                    fail(ROOM);
                } else {
                    readIf(gate);
                }
            }
            readExpression(gate);
            if (take(';')) {
                draft.addStep(STEP_END, 0);
            }
        }

        private void readIf(int gate) {
            take(WORD_IF);
            readExpression(gate);
            take('<');
            readExpression(gate);
            take(WORD_THEN);
            int unless = draft.addStep(STEP_UNLESS_LESS, 0);
            readExpression(gate);
            take(WORD_ELSE);
            draft.addStep(STEP_END, 0);
            draft.leadHere(unless);
        }

        /** Units and operators take turns; an operator waits until its right side is told. */
        private void readExpression(int gate) {
            int nested = 0;
            boolean unitDue = true;
            waitingSize = 0;
            for (int i = 0; i <= MOST_TOKENS && fault == 0; i++) {
                int sign = kind;
                if (unitDue && sign == '(') {
                    if (nested == MOST_NESTED) {
                        fail(ROOM);
                    }
                    nested++;
                    waitFor(sign);
                    take(sign);
                } else if (unitDue) {
                    readUnit(gate);
                    unitDue = false;
                } else if (strength(sign) > 0) {
                    release(strength(sign));
                    waitFor(sign);
                    take(sign);
                    unitDue = true;
                } else if (sign == ')' && nested > 0) {
                    release(1);
                    waitingSize = Math.max(0, waitingSize - 1);
                    nested--;
                    take(sign);
                } else {
                    release(1);
                    if (nested > 0) {
                        fail(SYNTAX);
                    }
                    return;
                }
            }
        }

        private void readUnit(int gate) {
            int unit = kind;
            if (unit == INT && take(INT)) {
                draft.addStep(STEP_INT, (int) tookValue);
            } else if (unit >= WORD_HOUR && unit <= WORD_SICK && take(unit)) {
                draft.addStep(STEP_VAR, unit - WORD_HOUR);
                draft.noteVar(gate, unit - WORD_HOUR);
            } else {
                fail(SYNTAX);
            }
        }

        private void waitFor(int sign) {
            if (waitingSize < STACK) {
                waiting[waitingSize] = sign;
                waitingSize++;
            }
        }

        /** The waiting operators down to the last '(' that bind at least so strongly are told. */
        private void release(int strength) {
            while (waitingSize > 0 && strength(waiting[waitingSize - 1]) >= strength) {
                waitingSize--;
                draft.addStep(stepOf(waiting[waitingSize]), 0);
            }
        }

        private static int strength(int sign) {
            return sign == '*' || sign == '/' ? 2 : sign == '+' || sign == '-' ? 1 : 0;
        }

        private static int stepOf(int sign) {
            return sign == '+' ? STEP_PLUS : sign == '-' ? STEP_MINUS : sign == '*' ? STEP_TIMES : STEP_OVER;
        }

        private void takeFirst(int what) {
            if (draft.counts[what] >= MOST_TOLD[what]) {
                fail(ROOM);
            }
            take(kind);
        }

        private long newName() {
            if (take(NAME) && draft.isTold(tookValue)) {
                note(TWICE);
            }
            return tookValue;
        }

        private int toldDish() {
            return take(NAME) ? known(draft.dishNamed(tookValue)) : NONE;
        }

        private int toldMan() {
            return take(NAME) ? known(draft.manNamed(tookValue)) : NONE;
        }

        private int known(int found) {
            if (found == NONE) {
                note(UNKNOWN_NAME);
            }
            return found;
        }

        private int number(int least, int most) {
            if (!take(INT)) {
                return least;
            }
            if (tookValue < least || tookValue > most) {
                note(WRONG);
                return least;
            }
            return (int) tookValue;
        }

        /** The next token, if it is of the kind that is due and there is no fault yet. */
        private boolean take(int due) {
            if (fault != 0) {
                return false;
            }
            if (kind != due || taken >= MOST_TOKENS) {
                fault = kind != due ? SYNTAX : ROOM;
                faultPlace = tape.starts[taken];
                return false;
            }
            tookPlace = tape.starts[taken];
            tookValue = tape.values[taken];
            taken++;
            kind = tape.kinds[taken];
            return true;
        }

        private void fail(int number) {
            if (fault == 0) {
                fault = number;
                faultPlace = tape.starts[taken];
            }
        }

        private void note(int number) {
            if (slip == 0) {
                slip = number;
                slipPlace = tookPlace;
            }
        }
    }

    /** What a text tells; nothing in it changes until the next text. */
    private static final class Told {
        private static final int FIRST_MAN_NAME = MOST_DISHES;
        private static final int FIRST_BELLY_NAME = MOST_DISHES + MOST_MEN;

        private final int[] counts = new int[KINDS_TOLD];
        private final long[] names = new long[MOST_DISHES + MOST_MEN + MOST_BELLIES];
        private final int[] bulk = new int[MOST_DISHES];
        private final int[] gain = new int[MOST_DISHES];
        private final int[] store = new int[MOST_DISHES];
        private final int[] belly = new int[MOST_MEN];
        private final int[] full = new int[MOST_MEN];
        private final int[] empties = new int[MOST_MEN];
        private final int[] load = new int[MOST_MEN];
        private final int[] hates = new int[MOST_MEN];
        private final int[] fastHours = new int[MOST_MEN];
        private final int[] ill = new int[MOST_MEN * MOST_DISHES];
        private final int[] net = new int[MOST_MEN];
        private final int[] hiredRoom = new int[MOST_BELLIES];
        private final int[] hiredFee = new int[MOST_BELLIES];
        private final int[] goer = new int[MOST_GOINGS];
        private final int[] goingHour = new int[MOST_GOINGS];
        private final int[] lawStart = new int[GATES * MOST_DISHES];
        private final int[] code = new int[MOST_TOKENS];
        private int codeLength;
        // Bits of gates with a law that looks at who was ahead.
        private int aheadGates;

        Told() {
            Arrays.fill(lawStart, NONE);
        }

        int dishes() {
            return counts[DISHES];
        }

        int men() {
            return counts[MEN];
        }

        int bellies() {
            return counts[BELLIES];
        }

        void clear() {
            Arrays.fill(counts, 0);
            Arrays.fill(net, 0);
            Arrays.fill(lawStart, NONE);
            codeLength = 0;
            aheadGates = 0;
        }

        void copyFrom(Told other) {
            copyRow(other.counts, counts);
            System.arraycopy(other.names, 0, names, 0, names.length);
            copyRow(other.bulk, bulk);
            copyRow(other.gain, gain);
            copyRow(other.store, store);
            copyRow(other.belly, belly);
            copyRow(other.full, full);
            copyRow(other.empties, empties);
            copyRow(other.load, load);
            copyRow(other.hates, hates);
            copyRow(other.fastHours, fastHours);
            copyRow(other.ill, ill);
            copyRow(other.net, net);
            copyRow(other.hiredRoom, hiredRoom);
            copyRow(other.hiredFee, hiredFee);
            copyRow(other.goer, goer);
            copyRow(other.goingHour, goingHour);
            copyRow(other.lawStart, lawStart);
            copyRow(other.code, code);
            codeLength = other.codeLength;
            aheadGates = other.aheadGates;
        }

        private static void copyRow(int[] from, int[] to) {
            System.arraycopy(from, 0, to, 0, Math.min(from.length, to.length));
        }

        boolean isTold(long name) {
            return dishNamed(name) != NONE || manNamed(name) != NONE
                || numberOf(name, FIRST_BELLY_NAME, bellies()) != NONE;
        }

        int dishNamed(long name) {
            return numberOf(name, 0, dishes());
        }

        int manNamed(long name) {
            return numberOf(name, FIRST_MAN_NAME, men());
        }

        private int numberOf(long name, int first, int many) {
            for (int i = 0; i < many && first + i < names.length; i++) {
                if (names[first + i] == name) {
                    return i;
                }
            }
            return NONE;
        }

        void addDish(long name, int bulkTold, int gainTold, int storeTold) {
            int dish = counts[DISHES];
            if (dish < MOST_DISHES) {
                counts[DISHES]++;
                names[dish] = name;
                bulk[dish] = bulkTold;
                gain[dish] = gainTold;
                store[dish] = storeTold;
            }
        }

        int addMan(long name, int bellyTold, int fullTold, int emptiesTold, int loadTold) {
            int man = counts[MEN];
            if (man >= MOST_MEN) {
                return NONE;
            }
            counts[MEN]++;
            names[FIRST_MAN_NAME + man] = name;
            belly[man] = bellyTold;
            full[man] = fullTold;
            empties[man] = emptiesTold;
            load[man] = loadTold;
            hates[man] = 0;
            fastHours[man] = 0;
            Arrays.fill(ill, man * MOST_DISHES, (man + 1) * MOST_DISHES, 0);
            return man;
        }

        void setHate(int man, int dish) {
            if (man >= 0 && dish >= 0) {
                hates[man] |= 1 << dish;
            }
        }

        void setIll(int man, int dish, int bites) {
            if (man >= 0 && dish >= 0) {
                ill[man * MOST_DISHES + dish] = bites;
            }
        }

        void setFast(int man, int from, int to) {
            if (man >= 0) {
                fastHours[man] = (2 << to) - (1 << from);
            }
        }

        void addBelly(long name, int room, int fee) {
            int number = counts[BELLIES];
            if (number < MOST_BELLIES) {
                counts[BELLIES]++;
                names[FIRST_BELLY_NAME + number] = name;
                hiredRoom[number] = room;
                hiredFee[number] = fee;
            }
        }

        void addGoing(int man, int hour) {
            int number = counts[GOINGS];
            if (number < MOST_GOINGS) {
                counts[GOINGS]++;
                goer[number] = man;
                goingHour[number] = hour;
            }
        }

        void addDebt(int debtor, int owed, int bites) {
            counts[DEBTS]++;
            if (debtor >= 0 && owed >= 0) {
                net[debtor] -= bites;
                net[owed] += bites;
            }
        }

        void beginLaw(int gate, int dish) {
            counts[LAWS]++;
            if (dish >= 0) {
                lawStart[gate * MOST_DISHES + dish] = codeLength;
            }
        }

        int addStep(int step, int with) {
            int at = codeLength;
            if (at < code.length) {
                code[at] = with << STEP_BITS | step;
                codeLength++;
            }
            return at;
        }

        /** The step at which an 'if' that does not hold goes on is told only now. */
        void leadHere(int unless) {
            if (unless < code.length) {
                code[unless] = codeLength << STEP_BITS | STEP_UNLESS_LESS;
            }
        }

        void noteVar(int gate, int var) {
            if (var == VAR_AHEAD) {
                aheadGates |= 1 << gate;
            }
        }
    }

    /** All that changes by a pass or an hour, in one row, so that it is copied at one go. */
    private static final class Scene {
        private static final int FULL = 0;
        private static final int SICK = FULL + MOST_MEN;
        private static final int EATEN = SICK + MOST_MEN;
        private static final int PASSED = EATEN + MOST_MEN;
        private static final int STORE = PASSED + MOST_MEN;
        private static final int GONE = STORE + MOST_DISHES;
        private static final int GAIN = GONE + MOST_DISHES;
        private static final int AHEAD = GAIN + GATES;
        private static final int HOUR = AHEAD + GATES;
        private static final int DAY = HOUR + 1;
        private static final int SIZE = DAY + 1;

        private final int[] cells = new int[SIZE];

        void begin(Told told) {
            Arrays.fill(cells, 0);
            System.arraycopy(told.full, 0, cells, FULL, told.men());
            System.arraycopy(told.store, 0, cells, STORE, told.dishes());
        }

        void copyFrom(Scene other) {
            System.arraycopy(other.cells, 0, cells, 0, SIZE);
        }

        int full(int man) {
            return cells[FULL + man];
        }

        int sickHours(int man) {
            return cells[SICK + man];
        }

        int swallowedBy(int man) {
            return cells[EATEN + man];
        }

        int passedToday(int man) {
            return cells[PASSED + man];
        }

        int store(int dish) {
            return cells[STORE + dish];
        }

        int swallowedOf(int dish) {
            return cells[GONE + dish];
        }

        int gainAt(int gate) {
            return cells[GAIN + gate];
        }

        int ahead(int gate) {
            return cells[AHEAD + gate];
        }

        int hour() {
            return cells[HOUR];
        }

        int dayNumber() {
            return cells[DAY];
        }

        void makeSick(int man) {
            cells[SICK + man] = SICK_HOURS;
        }

        void forgetGains() {
            Arrays.fill(cells, GAIN, GAIN + GATES, 0);
        }

        void goThrough(int man, int gate, Plate plate) {
            cells[FULL + man] += plate.bulk;
            cells[EATEN + man] += plate.number;
            cells[PASSED + man] = 1;
            cells[GAIN + gate] += plate.gain;
            cells[AHEAD + gate]++;
            for (int dish = 0; dish < MOST_DISHES; dish++) {
                cells[STORE + dish] -= plate.bites[dish];
                cells[GONE + dish] += plate.bites[dish];
            }
        }

        void letHourGoBy(Told told) {
            for (int man = 0; man < told.men(); man++) {
                cells[FULL + man] = Math.max(0, cells[FULL + man] - told.empties[man]);
                cells[SICK + man] = Math.max(0, cells[SICK + man] - 1);
            }
            cells[HOUR]++;
            if (cells[HOUR] > LAST_HOUR) {
                cells[HOUR] = 0;
                cells[DAY]++;
                Arrays.fill(cells, PASSED, PASSED + MOST_MEN, 0);
                Arrays.fill(cells, AHEAD, AHEAD + GATES, 0);
            }
        }
    }

    /** What is laid before somebody. */
    private static final class Plate {
        private final int[] bites = new int[MOST_DISHES];
        private int number;
        private int bulk;
        private int gain;
        private int dishBits;

        void clear() {
            Arrays.fill(bites, 0);
            number = 0;
            bulk = 0;
            gain = 0;
            dishBits = 0;
        }

        void add(int dish, int more, Told told) {
            if (more > 0) {
                bites[dish] += more;
                number += more;
                bulk += more * told.bulk[dish];
                gain += more * told.gain[dish];
                dishBits |= 1 << dish;
            }
        }

        void addAll(Plate other, Told told) {
            for (int dish = 0; dish < MOST_DISHES; dish++) {
                add(dish, other.bites[dish], told);
            }
        }
    }

    /** Lays tolls by the laws, and knows who may pass. */
    private static final class Keeper {
        private final Told told;
        private final int[] vars = new int[VARS];
        private final int[] stack = new int[STACK];

        Keeper(Told told) {
            this.told = told;
        }

        /** The toll of a man, with so many more ahead of him than the scene has. */
        void lay(Scene scene, int man, int gate, int more, Plate plate) {
            vars[VAR_HOUR] = scene.hour();
            vars[VAR_LOAD] = told.load[man];
            vars[VAR_ROOM] = told.belly[man] - scene.full(man);
            vars[VAR_FULL] = scene.full(man);
            vars[VAR_AHEAD] = scene.ahead(gate) + more;
            vars[VAR_SICK] = scene.sickHours(man) > 0 ? 1 : 0;
            plate.clear();
            for (int dish = 0; dish < told.dishes(); dish++) {
                vars[VAR_LEFT] = scene.store(dish);
                int start = told.lawStart[gate * MOST_DISHES + dish];
                if (start >= 0) {
                    plate.add(dish, Math.min(MOST_BITES, valueOf(start)), told);
                }
            }
        }

        /** What a law tells; 0 where something that is looked at is divided by 0. */
        private int valueOf(int start) {
            int top = 0;
            for (int at = start; at < told.codeLength; at++) {
                int step = told.code[at] & STEP_MASK;
                int with = told.code[at] >> STEP_BITS;
                if (step == STEP_END) {
                    return top > 0 ? stack[top - 1] : 0;
                }
                if (step == STEP_INT || step == STEP_VAR) {
                    if (top >= STACK) {
                        return 0;
                    }
                    stack[top] = step == STEP_INT ? with : vars[with];
                    top++;
                    continue;
                }
                if (top < 2 || step == STEP_OVER && stack[top - 1] == 0) {
                    return 0;
                }
                top -= 2;
                if (step != STEP_UNLESS_LESS) {
                    stack[top] = combined(step, stack[top], stack[top + 1]);
                    top++;
                } else if (stack[top] >= stack[top + 1]) {
                    at = Math.max(at, with - 1);
                }
            }
            return 0;
        }

        private static int combined(int step, int a, int b) {
            switch (step) {
                case STEP_PLUS:
                    return a + b;
                case STEP_MINUS:
                    return a - b;
                case STEP_TIMES:
                    return a * b;
                default:
                    return b == 0 ? 0 : a / b;
            }
        }

        /** 0 if he may pass, else the first reason why not; a plan does not ask what the stores have. */
        int whyNot(Scene scene, int man, Plate plate, boolean askStores) {
            if (scene.sickHours(man) > 0) {
                return 1;
            }
            if (plate.number > 0 && isFasting(scene, man)) {
                return 2;
            }
            if ((plate.dishBits & told.hates[man]) != 0) {
                return 3;
            }
            if (askStores && !storesHave(scene, plate)) {
                return 4;
            }
            return plate.bulk > told.belly[man] - scene.full(man) ? 5 : 0;
        }

        boolean storesHave(Scene scene, Plate plate) {
            for (int dish = 0; dish < MOST_DISHES; dish++) {
                if (plate.bites[dish] > scene.store(dish)) {
                    return false;
                }
            }
            return true;
        }

        boolean isFasting(Scene scene, int man) {
            return (told.fastHours[man] >> scene.hour() & 1) != 0;
        }

        /** His room; none if he is sick or in a fast. */
        int openRoom(Scene scene, int man) {
            boolean shut = scene.sickHours(man) > 0 || isFasting(scene, man);
            return shut ? 0 : told.belly[man] - scene.full(man);
        }

        void swallow(Scene scene, int man, int gate, Plate plate) {
            scene.goThrough(man, gate, plate);
            for (int dish = 0; dish < told.dishes(); dish++) {
                int enough = told.ill[man * MOST_DISHES + dish];
                if (enough > 0 && plate.bites[dish] >= enough) {
                    scene.makeSick(man);
                }
            }
        }
    }

    /** The last things done, and the slots. */
    private static final class Memory {
        private final int[] done = new int[MOST_UNDONE * Scene.SIZE];
        private final int[] slots = new int[SLOTS * Scene.SIZE];
        private int first;
        private int size;
        private int heldSlots;

        void forgetAll() {
            size = 0;
            heldSlots = 0;
        }

        void remember(Scene scene) {
            if (size == MOST_UNDONE) {
                first = (first + 1) % MOST_UNDONE;
                size--;
            }
            int place = (first + size) % MOST_UNDONE * Scene.SIZE;
            System.arraycopy(scene.cells, 0, done, place, Scene.SIZE);
            size++;
        }

        boolean takeBack(Scene scene) {
            if (size == 0) {
                return false;
            }
            size--;
            int place = (first + size) % MOST_UNDONE * Scene.SIZE;
            System.arraycopy(done, place, scene.cells, 0, Scene.SIZE);
            return true;
        }

        boolean keepIn(int slot, Scene scene) {
            if (slot < 0 || slot >= SLOTS) {
                return false;
            }
            System.arraycopy(scene.cells, 0, slots, slot * Scene.SIZE, Scene.SIZE);
            heldSlots |= 1 << slot;
            return true;
        }

        boolean takeUp(int slot, Scene scene) {
            if (slot < 0 || slot >= SLOTS || (heldSlots >> slot & 1) == 0) {
                return false;
            }
            System.arraycopy(slots, slot * Scene.SIZE, scene.cells, 0, Scene.SIZE);
            size = 0;
            return true;
        }
    }

    /** Bites shared out: to hired bellies, under the tongue, between two men, and those owed. */
    private static final class Mouths {
        private static final int STATES = 7 * 7 * 7 * 7;
        // A bin's number and what is in it make one number: every room is less than this.
        private static final int BIN = 128;

        private final Told told;
        private final int[] reached = new int[STATES];
        private final int[] binRoom = new int[MOST_BELLIES + 1];
        private int bins;
        private final int[] stride = new int[MOST_DISHES];
        private final int[] fewest = new int[MOST_ROOM + 1];
        private final int[] netSum = new int[SETS];
        private final int[] quits = new int[SETS];

        Mouths(Told told) {
            this.told = told;
        }

        int feeOf(int bits) {
            int fee = 0;
            for (int belly = 0; belly < told.bellies(); belly++) {
                fee += (bits >> belly & 1) * told.hiredFee[belly];
            }
            return fee;
        }

        /** The bits of the bellies with the least fee (of alike ones the least) that help; or CANNOT. */
        int cheapest(Plate plate, int room, int hated) {
            int all = (1 << told.bellies()) - 1;
            if (!swallowsAll(all, plate, room, hated)) {
                return CANNOT;
            }
            int best = all;
            int bestFee = HUGE;
            for (int bits = 0; bits <= all; bits++) {
                int fee = feeOf(bits);
                if (fee < bestFee && swallowsAll(bits, plate, room, hated)) {
                    best = bits;
                    bestFee = fee;
                }
            }
            return best;
        }

        /**
         * Bins are filled one behind the other: the man's room first, then the bellies. For each
         * part of the toll only the earliest bin with the least in it is kept: whatever can follow
         * a later or fuller one can follow that too.
         */
        private boolean swallowsAll(int bits, Plate plate, int room, int hated) {
            if (setBins(bits, room) < plate.bulk) {
                return false;
            }
            int states = setStrides(plate);
            Arrays.fill(reached, 0, states, HUGE);
            reached[0] = 0;
            for (int state = 0; state < states; state++) {
                if (reached[state] == HUGE) {
                    continue;
                }
                for (int dish = 0; dish < told.dishes(); dish++) {
                    int next = state + stride[dish];
                    if (state / stride[dish] % (plate.bites[dish] + 1) < plate.bites[dish]) {
                        int position = withBite(reached[state], dish, hated);
                        reached[next] = Math.min(reached[next], position);
                    }
                }
            }
            return reached[states - 1] != HUGE;
        }

        private int setBins(int bits, int room) {
            int sum = room;
            binRoom[0] = room;
            bins = 1;
            for (int belly = 0; belly < told.bellies(); belly++) {
                if ((bits >> belly & 1) != 0) {
                    binRoom[bins] = told.hiredRoom[belly];
                    sum += told.hiredRoom[belly];
                    bins++;
                }
            }
            return sum;
        }

        private int setStrides(Plate plate) {
            int states = 1;
            for (int dish = 0; dish < told.dishes(); dish++) {
                stride[dish] = states;
                states *= plate.bites[dish] + 1;
            }
            return Math.min(states, STATES);
        }

        private int withBite(int position, int dish, int hated) {
            int bulk = told.bulk[dish];
            int used = position % BIN;
            for (int bin = position / BIN; bin < bins; bin++) {
                boolean stands = bin > 0 || (hated >> dish & 1) == 0;
                if (stands && used + bulk <= binRoom[bin]) {
                    return bin * BIN + used + bulk;
                }
                used = 0;
            }
            return HUGE;
        }

        /** The most bites that go into a room: the small ones first. */
        int mostSwallowed(Plate plate, int room, int hated) {
            int left = room;
            int swallowed = 0;
            for (int bulk = 1; bulk <= 9; bulk++) {
                for (int dish = 0; dish < told.dishes(); dish++) {
                    if (told.bulk[dish] == bulk && (hated >> dish & 1) == 0) {
                        int bites = Math.min(plate.bites[dish], left / bulk);
                        swallowed += bites;
                        left -= bites * bulk;
                    }
                }
            }
            return swallowed;
        }

        /** The fewest bites for the first of two so that both together swallow all; or CANNOT. */
        int fewestByFirst(Plate plate, int room, int hated, int otherRoom, int otherHated) {
            if ((plate.dishBits & hated & otherHated) != 0) {
                return CANNOT;
            }
            Arrays.fill(fewest, HUGE);
            int forced = 0;
            int forcedBulk = 0;
            for (int dish = 0; dish < told.dishes(); dish++) {
                if ((otherHated >> dish & 1) != 0) {
                    forced += plate.bites[dish];
                    forcedBulk += plate.bites[dish] * told.bulk[dish];
                }
            }
            if (forcedBulk > room || room > MOST_ROOM) {
                return CANNOT;
            }
            fewest[forcedBulk] = forced;
            for (int dish = 0; dish < told.dishes(); dish++) {
                if (((hated | otherHated) >> dish & 1) == 0) {
                    offer(plate.bites[dish], told.bulk[dish], room);
                }
            }
            int least = HUGE;
            for (int bulk = Math.max(0, plate.bulk - otherRoom); bulk <= room; bulk++) {
                least = Math.min(least, fewest[bulk]);
            }
            return least == HUGE ? CANNOT : least;
        }

        private void offer(int bites, int bulk, int room) {
            for (int bite = 0; bite < bites; bite++) {
                for (int sum = room; sum >= bulk; sum--) {
                    if (fewest[sum - bulk] != HUGE) {
                        fewest[sum] = Math.min(fewest[sum], fewest[sum - bulk] + 1);
                    }
                }
            }
        }

        /**
         * The most groups of men whose nets are 0 together: each group needs one hand less than it
         * has men, and one whose net is 0 is a group by himself.
         */
        int mostQuits() {
            int all = (1 << told.men()) - 1;
            netSum[0] = 0;
            quits[0] = 0;
            for (int set = 1; set <= all; set++) {
                int most = 0;
                for (int man = 0; man < told.men(); man++) {
                    int without = set & ~(1 << man);
                    if (without != set) {
                        most = Math.max(most, quits[without]);
                        netSum[set] = netSum[without] + told.net[man];
                    }
                }
                quits[set] = netSum[set] == 0 ? most + 1 : most;
            }
            return quits[all];
        }
    }

    /** Plans for a set of men: which parts of it can have passed, and what that is worth at best. */
    private static final class Planner {
        private static final int NOT_REACHED = -HUGE;
        private static final int NOT_ASKED = -HUGE;
        private static final int REFUSED = -HUGE - 1;
        private static final int WORTH_NOTHING = 0;
        private static final int WORTH_BULK = 1;
        private static final int WORTH_GAIN = 2;

        private final Told told;
        private final Keeper keeper;
        private final Scene trial;
        private final Plate plate;
        private final int[] worth = new int[SETS];
        private final int[] asked = new int[MOST_MEN * MOST_MEN];
        private int set;
        private int gate;
        private int measure;

        Planner(Told told, Keeper keeper, Scene trial, Plate plate) {
            this.told = told;
            this.keeper = keeper;
            this.trial = trial;
            this.plate = plate;
        }

        /** The hour by which all can have passed; to know what it is worth the whole day is planned. */
        int planDay(Scene now, int men, int byGate, int by) {
            trial.copyFrom(now);
            set = men;
            gate = byGate;
            measure = by;
            Arrays.fill(worth, NOT_REACHED);
            worth[0] = 0;
            int allBy = CANNOT;
            for (int hour = now.hour(); hour <= LAST_HOUR; hour++) {
                planHour();
                if (allBy == CANNOT && worth[set] != NOT_REACHED) {
                    allBy = hour;
                }
                if (allBy != CANNOT && measure == WORTH_NOTHING) {
                    return allBy;
                }
                trial.letHourGoBy(told);
            }
            return allBy;
        }

        /** Bulk was counted below 0, so that the least of it is worth most. */
        int worthOfAll() {
            return worth[set] == NOT_REACHED ? CANNOT : Math.abs(worth[set]);
        }

        int largestCrowd() {
            int largest = 0;
            for (int passed = 0; passed <= set; passed++) {
                if (worth[passed] != NOT_REACHED && Integer.bitCount(passed) > Integer.bitCount(largest)) {
                    largest = passed;
                }
            }
            return largest;
        }

        /** A set with one man more has a greater number, so one way up lets several pass in an hour. */
        private void planHour() {
            Arrays.fill(asked, NOT_ASKED);
            for (int passed = 0; passed < set; passed++) {
                if ((passed & ~set) != 0 || worth[passed] == NOT_REACHED) {
                    continue;
                }
                for (int man = 0; man < told.men(); man++) {
                    int with = passed | 1 << man;
                    boolean waits = with != passed && (with & ~set) == 0;
                    if (waits && (measure != WORTH_NOTHING || worth[with] == NOT_REACHED)) {
                        int more = worthOf(man, Integer.bitCount(passed));
                        worth[with] = more == REFUSED ? worth[with] : Math.max(worth[with], worth[passed] + more);
                    }
                }
            }
        }

        /** Each man's toll is laid once an hour, or once for each number of men ahead if a law asks. */
        private int worthOf(int man, int ahead) {
            int more = (told.aheadGates >> gate & 1) == 0 ? 0 : ahead;
            int cell = man * MOST_MEN + more;
            if (asked[cell] == NOT_ASKED) {
                keeper.lay(trial, man, gate, more, plate);
                int value = measure == WORTH_GAIN ? plate.gain : measure == WORTH_BULK ? -plate.bulk : 0;
                asked[cell] = keeper.whyNot(trial, man, plate, false) == 0 ? value : REFUSED;
            }
            return asked[cell];
        }
    }

    /** What would be: for one man hour by hour, on a whole day, by another law. */
    private static final class Guesser {
        private final Told told;
        private final Keeper keeper;
        private final Scene trial;
        private final Plate plate;
        private final Plate otherPlate;
        private final int[] bestLaw = new int[MOST_DISHES];
        private int bestGain;
        private int passedMen;
        private int wentAway;

        Guesser(Told told, Keeper keeper, Scene trial, Plate plate, Plate otherPlate) {
            this.told = told;
            this.keeper = keeper;
            this.trial = trial;
            this.plate = plate;
            this.otherPlate = otherPlate;
        }

        int hoursUntilMay(Scene now, int man, int gate) {
            trial.copyFrom(now);
            for (int hours = 0; hours <= LAST_HOUR; hours++) {
                if (mayInTrial(man, gate, plate)) {
                    return hours;
                }
                trial.letHourGoBy(told);
            }
            return CANNOT;
        }

        int bestHour(Scene now, int man, int gate, boolean gain) {
            trial.copyFrom(now);
            int best = CANNOT;
            int bestWorth = 0;
            for (int hour = now.hour(); hour <= LAST_HOUR; hour++) {
                if (mayInTrial(man, gate, plate)) {
                    int worth = gain ? plate.gain : -plate.bulk;
                    if (best == CANNOT || worth > bestWorth) {
                        best = hour;
                        bestWorth = worth;
                    }
                }
                trial.letHourGoBy(told);
            }
            return best;
        }

        private boolean mayInTrial(int man, int gate, Plate laid) {
            keeper.lay(trial, man, gate, 0, laid);
            return keeper.whyNot(trial, man, laid, true) == 0;
        }

        /** The trial's gains are then those of this day alone. */
        void liveDay(Scene now) {
            trial.copyFrom(now);
            trial.forgetGains();
            passedMen = 0;
            wentAway = 0;
            for (int hour = now.hour(); hour <= LAST_HOUR; hour++) {
                for (int going = 0; going < told.counts[GOINGS]; going++) {
                    if (told.goingHour[going] == hour) {
                        goByHimself(told.goer[going]);
                    }
                }
                trial.letHourGoBy(told);
            }
        }

        private void goByHimself(int man) {
            boolean mayFirst = mayInTrial(man, 0, plate);
            boolean mayOther = mayInTrial(man, 1, otherPlate);
            if (mayFirst && (!mayOther || plate.bulk <= otherPlate.bulk)) {
                keeper.swallow(trial, man, 0, plate);
                passedMen |= 1 << man;
            } else if (mayOther) {
                keeper.swallow(trial, man, 1, otherPlate);
                passedMen |= 1 << man;
            } else {
                wentAway++;
            }
        }

        /**
         * Laws are tried in rising order, so that only one that gains more takes the place of the
         * best one; the first, of no bites, gains nothing.
         */
        void findBestLaw(Scene now, int set) {
            bestGain = 0;
            Arrays.fill(bestLaw, 0);
            int eaters = eatersOf(now, set);
            int laws = 1;
            for (int dish = 0; dish < told.dishes(); dish++) {
                laws *= MOST_BITES + 1;
            }
            for (int number = 1; number < laws; number++) {
                layByNumber(number);
                int most = Math.min(Integer.bitCount(eaters), servedFrom(now));
                if (most * plate.gain > bestGain) {
                    int sum = Math.min(most, whoSwallow(now, eaters)) * plate.gain;
                    if (sum > bestGain) {
                        bestGain = sum;
                        System.arraycopy(plate.bites, 0, bestLaw, 0, MOST_DISHES);
                    }
                }
            }
        }

        private int eatersOf(Scene now, int set) {
            int eaters = 0;
            for (int man = 0; man < told.men(); man++) {
                boolean eats = now.sickHours(man) == 0 && !keeper.isFasting(now, man);
                if (eats && (set >> man & 1) != 0) {
                    eaters |= 1 << man;
                }
            }
            return eaters;
        }

        private void layByNumber(int number) {
            int rest = number;
            plate.clear();
            for (int dish = told.dishes() - 1; dish >= 0; dish--) {
                plate.add(dish, rest % (MOST_BITES + 1), told);
                rest /= MOST_BITES + 1;
            }
        }

        /** All who pass swallow the same: for how many of them the stores have enough. */
        private int servedFrom(Scene now) {
            int served = MOST_MEN;
            for (int dish = 0; dish < told.dishes(); dish++) {
                if (plate.bites[dish] > 0) {
                    served = Math.min(served, now.store(dish) / plate.bites[dish]);
                }
            }
            return served;
        }

        private int whoSwallow(Scene now, int eaters) {
            int many = 0;
            for (int man = 0; man < told.men(); man++) {
                boolean stands = (plate.dishBits & told.hates[man]) == 0;
                if ((eaters >> man & 1) != 0 && stands && plate.bulk <= told.belly[man] - now.full(man)) {
                    many++;
                }
            }
            return many;
        }
    }

    /** The book against what was eaten. */
    private static final class Book {
        private final Told told;
        private final Keeper keeper;
        private final Scene trial;
        private final Plate plate;
        private final int[] entryMan = new int[MOST_ENTRIES];
        private final int[] entryGate = new int[MOST_ENTRIES];
        private final int[] entryHour = new int[MOST_ENTRIES];
        private final int[] swallowed = new int[MOST_MEN * MOST_DISHES];
        private int entries;

        Book(Told told, Keeper keeper, Scene trial, Plate plate) {
            this.told = told;
            this.keeper = keeper;
            this.trial = trial;
            this.plate = plate;
        }

        boolean has(int k) {
            return k >= 0 && k <= entries;
        }

        int write(int man, int gate, int hour) {
            if (entries >= MOST_ENTRIES || entries > 0 && hour < entryHour[entries - 1]) {
                return NONE;
            }
            entryMan[entries] = man;
            entryGate[entries] = gate;
            entryHour[entries] = hour;
            entries++;
            return entries - 1;
        }

        /** 10 * the first of k entries that may not, and why; CANNOT (-2) if all may, one left out. */
        int firstRefused(int k, int leftOut) {
            trial.begin(told);
            Arrays.fill(swallowed, 0);
            for (int entry = 0; entry < k && entry < entries; entry++) {
                if (entry != leftOut) {
                    int why = whyRefused(entry);
                    if (why != 0) {
                        return 10 * entry + why;
                    }
                }
            }
            return CANNOT;
        }

        private int whyRefused(int entry) {
            int man = entryMan[entry];
            for (int hour = trial.hour(); hour < entryHour[entry]; hour++) {
                trial.letHourGoBy(told);
            }
            keeper.lay(trial, man, entryGate[entry], 0, plate);
            int why = keeper.whyNot(trial, man, plate, true);
            if (why == 0) {
                keeper.swallow(trial, man, entryGate[entry], plate);
                for (int dish = 0; dish < MOST_DISHES; dish++) {
                    swallowed[man * MOST_DISHES + dish] += plate.bites[dish];
                }
            }
            return why;
        }

        int oddOne(int k) {
            if (firstRefused(k, NONE) == CANNOT) {
                return CANNOT;
            }
            for (int entry = 0; entry < k; entry++) {
                if (firstRefused(k, entry) == CANNOT) {
                    return entry;
                }
            }
            return CANNOT;
        }

        int bitesLed(int k, int man, int dish) {
            if (firstRefused(k, NONE) != CANNOT) {
                return CANNOT;
            }
            int sum = 0;
            for (int cell = 0; cell < swallowed.length; cell++) {
                boolean byHim = man == NONE || cell / MOST_DISHES == man;
                boolean ofIt = dish == NONE || cell % MOST_DISHES == dish;
                sum += byHim && ofIt ? swallowed[cell] : 0;
            }
            return sum;
        }
    }
}
