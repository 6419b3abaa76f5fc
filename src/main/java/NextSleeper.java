/** A house in which a dream that breaks off is taken up by whoever falls asleep next. */
public final class NextSleeper {
    public static final int NONE = -1;

    private static final int NOBODY = -2;
    private static final int NOT_TOLD = -10000;
    private static final int MOST_BYTES = 2000;
    private static final int MOST_TOKENS = 400;
    private static final int MOST_STEPS = 10;
    private static final int MOST_GOOD = 9;
    private static final int MOST_ROADS = 20;
    private static final int MOST_WAYS = 4;
    private static final int MOST_SLEEPERS = 6;
    private static final int MOST_NAMES = MOST_STEPS + MOST_SLEEPERS;
    private static final int MOST_IFS = 4;
    private static final int DEEPEST = 6;
    private static final int DAY = 24;
    private static final int HOURS = 600;
    private static final int LONGEST_SLEEP = 12;
    private static final int MOST_UNDONE = 30;
    private static final int MOST_TOLD = 20;
    private static final int SLOTS = 3;
    private static final int NATURES = 5;
    private static final int MOST_REST_HOURS = 240;
    private static final int MOST_ROUND_HOURS = 300;
    private static final int MOST_MEAN_HOURS = 300;
    private static final int MOST_SEEDS = 10;
    private static final int NEEDED_HOURS = 120;
    private static final int MOST_BEST_STEPS = 60;

    private final Reader reader = new Reader();
    private House house = new House();
    private final State state = new State();
    private final Log log = new Log();
    private final Past past = new Past();
    private final Told told = new Told();
    private final Trials trials = new Trials();
    private final Lines lines = new Lines();
    private final Ways ways = new Ways();

    public NextSleeper() {
        state.begin(house);
    }

    public int feed(int a, int b, int c, int d, int e) {
        Tape tape = reader.tape;
        if (!tape.hasRoom(20)) {
            return NONE;
        }
        tape.addInt(a);
        tape.addInt(b);
        tape.addInt(c);
        tape.addInt(d);
        tape.addInt(e);
        return tape.length;
    }

    public int back(int n) {
        Tape tape = reader.tape;
        if (n < 0 || n > tape.length) {
            return NONE;
        }
        tape.length -= n;
        return tape.length;
    }

    public int read() {
        reader.start();
        reader.readTells();
        if (reader.fault == Reader.FAULTLESS) {
            house = reader.handOver(house);
            beginAnew();
        }
        return reader.fault;
    }

    public int place() {
        return reader.faultPlace;
    }

    public int now(int what) {
        return state.tells(what);
    }

    public int sleeper(int sleeper, int what) {
        if (!isSleeper(sleeper) || what < State.LEFT || what > State.ANEW) {
            return NOT_TOLD;
        }
        return state.of(sleeper, what);
    }

    public int was(int hour, int what) {
        if (hour < 0 || hour >= state.hour || what < 0 || what > 1) {
            return NONE;
        }
        return what == 0 ? log.whoAt(hour) : log.stepAt(hour);
    }

    public int hours(int n) {
        if (n < 0 || n > HOURS - state.hour) {
            return NONE;
        }
        if (n > 0) {
            past.keep(state);
        }
        for (int i = 0; i < n; i++) {
            int hour = state.hour;
            state.passHours(house, 1);
            log.write(hour, state.lastWho, state.lastStep);
        }
        return state.hour;
    }

    public boolean nap(int sleeper, int n) {
        if (!isSleeper(sleeper) || n < 1 || n > LONGEST_SLEEP || state.isAsleep(sleeper)) {
            return false;
        }
        past.keep(state);
        state.layDown(sleeper, n);
        return true;
    }

    public boolean wake(int sleeper) {
        if (!isSleeper(sleeper) || !state.isAsleep(sleeper)) {
            return false;
        }
        past.keep(state);
        state.rouse(sleeper);
        return true;
    }

    public boolean bed(int sleeper, int hour) {
        if (!isSleeper(sleeper) || !isHourOfDay(hour) || state.of(sleeper, State.BED) == hour) {
            return false;
        }
        past.keep(state);
        state.put(sleeper, State.BED, hour);
        return true;
    }

    public boolean set(int step) {
        if (!isStep(step) || state.at == step) {
            return false;
        }
        past.keep(state);
        state.at = step;
        return true;
    }

    public boolean undo() {
        return past.takeBack(state);
    }

    public int then(int n, int what) {
        if (n < 0 || n > HOURS) {
            return NONE;
        }
        return trials.later(house, state, n).tells(what);
    }

    public int ends() {
        return trials.nextEnd(house, state);
    }

    public int gains(int sleeper, int n) {
        if (!isSleeper(sleeper) || n < 0 || n > HOURS) {
            return NOT_TOLD;
        }
        return trials.gainOf(house, state, sleeper, n);
    }

    public int line(int step) {
        return isStep(step) ? lines.soonest(house, state, step) : NONE;
    }

    public int lineAt(int step, int i) {
        if (!isStep(step) || i < 0) {
            return NONE;
        }
        if (lines.soonest(house, state, step) == NOBODY) {
            return NOBODY;
        }
        return i < house.sleepers ? lines.chosenAt(i) : NONE;
    }

    public int fair(int what) {
        if (house.sleepers == 0 || what < 0 || what > 1) {
            return NOT_TOLD;
        }
        int least = lines.fairest(house, state);
        return what == 0 ? least : lines.chosenAt(0);
    }

    public int rests(int n, int i) {
        if (n < 1 || n > MOST_REST_HOURS || i < NONE) {
            return NONE;
        }
        return trials.restingSets(house, state, n, i);
    }

    public int round(int what) {
        if (what < 0 || what > 1) {
            return NONE;
        }
        return trials.comesRound(house, state, what);
    }

    public int reach() {
        return ways.reachable(house, state.at);
    }

    public int far(int step) {
        return isStep(step) ? ways.distance(house, state.at, step) : NONE;
    }

    public int farAt(int step, int i) {
        if (!isStep(step) || i < 0) {
            return NONE;
        }
        int distance = ways.distance(house, state.at, step);
        if (distance == NOBODY) {
            return NOBODY;
        }
        return i <= distance ? ways.onTheWay(house, state.at, i) : NONE;
    }

    public int trapped() {
        return ways.withoutEnd(house);
    }

    public int bestBed(int sleeper, int n, int what) {
        if (!isSleeper(sleeper) || n < 1 || n > MOST_REST_HOURS || what < 0 || what > 1) {
            return NOT_TOLD;
        }
        return trials.bestHour(house, state, sleeper, n, what);
    }

    public int bestStart(int n, int what) {
        if (house.steps == 0 || n < 1 || n > MOST_REST_HOURS || what < 0 || what > 1) {
            return NOT_TOLD;
        }
        return trials.bestStep(house, state, n, what);
    }

    public int free(int what) {
        if (what < 0 || what > 1) {
            return NONE;
        }
        return trials.quietHours(house, state, what);
    }

    public int handed(int sleeper, int other) {
        if (!isSleeper(sleeper) || !isSleeper(other) || sleeper == other) {
            return NONE;
        }
        return log.handedOn(state.hour, sleeper, other);
    }

    public int luckiest(int what) {
        if (what < 0 || what > 1) {
            return NONE;
        }
        if (house.sleepers == 0) {
            return NOBODY;
        }
        int most = 0;
        int least = 0;
        for (int i = 1; i < house.sleepers; i++) {
            most = state.of(i, State.GOOD) > state.of(most, State.GOOD) ? i : most;
            least = state.of(i, State.GOOD) < state.of(least, State.GOOD) ? i : least;
        }
        return what == 0 ? most : state.of(most, State.GOOD) - state.of(least, State.GOOD);
    }

    public int best(int n, int what) {
        if (house.steps == 0 || n < 1 || n > MOST_BEST_STEPS || what < 0 || what > 1) {
            return NOT_TOLD;
        }
        return ways.bestRow(house, state.at, n, what);
    }

    public int needed(int step) {
        return isStep(step) ? trials.neededFor(house, state, step) : NONE;
    }

    public int mean(int s, int n) {
        if (s < 1 || s > MOST_SEEDS || n < 0 || n > MOST_MEAN_HOURS) {
            return NONE;
        }
        return trials.endsBySeeds(house, state, s, n);
    }

    public int knows(int step) {
        return isStep(step) ? log.dreamersOf(state.hour, step) : NONE;
    }

    public int when(int step, boolean last) {
        return isStep(step) ? log.hourOf(state.hour, step, last) : NONE;
    }

    public int behind(int step, int other) {
        if (!isStep(step) || !isStep(other)) {
            return NONE;
        }
        return log.followed(state.hour, step, other);
    }

    public int longest(int sleeper) {
        if (sleeper != NONE && !isSleeper(sleeper)) {
            return NONE;
        }
        return log.longestRow(state.hour, sleeper);
    }

    public int tell(int sleeper, int step, int road) {
        if (!isSleeper(sleeper) || !isStep(step) || road < 0 || road >= house.waysFrom(step)) {
            return NONE;
        }
        return told.add(sleeper, step, road);
    }

    public int forget() {
        int many = told.many;
        told.many = 0;
        return many;
    }

    public int fits(int sleeper, int k, int i) {
        if (!isSleeper(sleeper) || k < 0 || k > told.many || i < NONE) {
            return NONE;
        }
        return told.fitting(house, sleeper, k, i);
    }

    public int doubt(int sleeper, int k) {
        if (!isSleeper(sleeper) || k < 0 || k > told.many) {
            return NONE;
        }
        return told.doubted(house, sleeper, k);
    }

    public boolean hold(int slot) {
        if (slot < 0 || slot >= SLOTS) {
            return false;
        }
        past.fillSlot(slot, state, log);
        return true;
    }

    public boolean restore(int slot) {
        if (slot < 0 || slot >= SLOTS || !past.isHeld(slot)) {
            return false;
        }
        past.pourSlot(slot, state, log);
        return true;
    }

    public int count(int what) {
        switch (what) {
            case 0:
                return house.steps;
            case 1:
                return house.roads;
            case 2:
                return house.sleepers;
            case 3:
                return house.begins;
            case 4:
                return house.naps;
            case 5:
                return reader.tape.length;
            case 6:
                return past.many;
            case 7:
                return told.many;
            case 8:
                return past.heldSlots();
            case 9:
                return log.dreamtHours(state.hour);
            default:
                return NONE;
        }
    }

    private void beginAnew() {
        state.begin(house);
        past.clear();
        told.many = 0;
    }

    private boolean isStep(int step) {
        return step >= 0 && step < house.steps;
    }

    private boolean isSleeper(int sleeper) {
        return sleeper >= 0 && sleeper < house.sleepers;
    }

    private static boolean isHourOfDay(int hour) {
        return hour >= 0 && hour < DAY;
    }

    /** The bytes that were fed and not read yet, and the TOKENS into which they are cut. */
    private static final class Tape {
        // A sign's kind is its byte, so the other kinds keep clear of 40 .. 61.
        private static final int END = 0;
        private static final int NO_TOKEN = 1;
        private static final int NAME = 2;
        private static final int INT = 3;
        private static final int FIRST_WORD = 128;
        private static final int STEP = 128;
        private static final int ENDS = 129;
        private static final int ROAD = 130;
        private static final int SLEEPER = 131;
        private static final int DOES = 132;
        private static final int BEGINS = 133;
        private static final int NAPS = 134;
        private static final int SEED = 135;
        private static final int IF = 136;
        private static final int THEN = 137;
        private static final int ELSE = 138;
        private static final int AT = 139;
        private static final int MOOD = 145;
        private static final int MANY_WORDS = 18;
        private static final int LONGEST_NAME = 8;
        private static final int LONGEST_INT = 4;
        // In the order of the kinds above; the blank behind the last one closes it.
        private static final String WORDS =
            "step ends road sleeper does begins naps seed if then else at good night dreamt ways left mood ";
        private static final String SIGNS = ";=+-*/<()";
        // One more than a text may have: the one that is too many has a place to tell.
        private static final int MOST_CUT = MOST_TOKENS + 1;

        private final byte[] bytes = new byte[MOST_BYTES];
        private int length;
        private final long[] words = new long[MANY_WORDS];
        private final int[] kinds = new int[MOST_CUT];
        private final int[] places = new int[MOST_CUT];
        private final long[] values = new long[MOST_CUT];
        private int next;
        private int kind;
        private long value;

        private Tape() {
            long code = 0;
            int word = 0;
            for (int i = 0; i < WORDS.length() && word < MANY_WORDS; i++) {
                char c = WORDS.charAt(i);
                if (c == ' ') {
                    words[word] = code;
                    word++;
                    code = 0;
                } else {
                    code = withLetter(code, c);
                }
            }
        }

        private boolean hasRoom(int more) {
            return length + more <= MOST_BYTES;
        }

        private void addInt(int four) {
            for (int shift = 24; shift >= 0; shift -= 8) {
                if (hasRoom(1)) {
                    bytes[length] = (byte) (four >> shift);
                    length++;
                }
            }
        }

        private int byteAt(int i) {
            return i >= 0 && i < length ? bytes[i] & 255 : NONE;
        }

        /** As far as the end, the first that is no TOKEN, or one TOKEN too many. */
        private void cut() {
            next = 0;
            kind = INT;
            for (int i = 0; i < MOST_CUT && kind != END && kind != NO_TOKEN; i++) {
                skipBlanks();
                places[i] = next;
                cutOne();
                kinds[i] = kind;
                values[i] = value;
            }
        }

        private void skipBlanks() {
            for (int i = 0; i < MOST_BYTES && isBlank(byteAt(next)); i++) {
                next++;
            }
        }

        private void cutOne() {
            int c = byteAt(next);
            value = 0;
            if (c == NONE) {
                kind = END;
            } else if (isLetter(c)) {
                cutLetters();
            } else if (isDigit(c)) {
                cutDigits();
            } else {
                kind = SIGNS.indexOf((char) c) >= 0 ? c : NO_TOKEN;
                next++;
            }
        }

        private void cutLetters() {
            int letters = 0;
            while (letters < MOST_BYTES && isLetter(byteAt(next))) {
                value = withLetter(value, byteAt(next));
                letters++;
                next++;
            }
            kind = letters > LONGEST_NAME ? NO_TOKEN : kindOfWord(value);
        }

        private void cutDigits() {
            int digits = 0;
            while (digits < MOST_BYTES && isDigit(byteAt(next))) {
                value = value * 10 + byteAt(next) - '0';
                digits++;
                next++;
            }
            kind = digits > LONGEST_INT ? NO_TOKEN : INT;
        }

        private int kindOfWord(long code) {
            for (int i = 0; i < MANY_WORDS; i++) {
                if (words[i] == code) {
                    return FIRST_WORD + i;
                }
            }
            return NAME;
        }

        private static long withLetter(long code, int letter) {
            return code << 5 | letter - 'a' + 1;
        }

        private static boolean isBlank(int c) {
            return c == 9 || c == 10 || c == 13 || c == 32;
        }

        private static boolean isLetter(int c) {
            return c >= 'a' && c <= 'z';
        }

        private static boolean isDigit(int c) {
            return c >= '0' && c <= '9';
        }
    }

    /** Reads a text into a House, or finds its FAULT. */
    private static final class Reader {
        private static final int FAULTLESS = 0;
        private static final int SYNTAX = 1;
        private static final int ROOM = 2;
        private static final int TWICE = 3;
        private static final int NO_NAME = 4;
        private static final int WRONG = 5;
        private static final int FIRST_SLEEPER = MOST_STEPS;

        private final Tape tape = new Tape();
        private final long[] names = new long[MOST_NAMES];
        private final int[] bearers = new int[MOST_NAMES];
        private int manyNames;
        private House draft = new House();
        private int fault;
        private int faultPlace = NONE;
        private int cursor;
        private int kind;
        private int place;
        private long takenValue;
        private int takenPlace;

        /** The tape is empty from here on; its TOKENS stay. */
        private void start() {
            draft.clear();
            manyNames = 0;
            fault = FAULTLESS;
            faultPlace = NONE;
            tape.cut();
            tape.length = 0;
            cursor = 0;
            kind = tape.kinds[0];
            place = tape.places[0];
        }

        private void readTells() {
            boolean fine = true;
            for (int i = 0; i < MOST_TOKENS && fine && kind != Tape.END; i++) {
                switch (kind) {
                    case Tape.STEP:
                        fine = takeStep();
                        break;
                    case Tape.ROAD:
                        fine = takeRoad();
                        break;
                    case Tape.SLEEPER:
                        fine = takeSleeper();
                        break;
                    case Tape.DOES:
                        fine = takeDoes();
                        break;
                    case Tape.BEGINS:
                        fine = takeBegins();
                        break;
                    case Tape.NAPS:
                        fine = takeNaps();
                        break;
                    case Tape.SEED:
                        fine = takeSeed();
                        break;
                    default:
                        fine = stopAt(SYNTAX, place);
                        break;
                }
            }
            draft.settleBegins();
        }

        /** The House that was read; the one ahead of it is drawn over by the next text. */
        private House handOver(House before) {
            House read = draft;
            draft = before;
            return read;
        }

        private boolean takeStep() {
            if (draft.steps >= MOST_STEPS) {
                return stopAt(ROOM, place);
            }
            if (!take(Tape.STEP) || !takeNewName(draft.steps)) {
                return false;
            }
            boolean below = kind == '-';
            if (below && !take('-') || !takeInt(0, MOST_GOOD)) {
                return false;
            }
            int good = below ? -taken() : taken();
            boolean ends = kind == Tape.ENDS;
            if (ends && !take(Tape.ENDS)) {
                return false;
            }
            draft.addStep(good, ends);
            return take(';');
        }

        private boolean takeRoad() {
            if (draft.roads >= MOST_ROADS) {
                return stopAt(ROOM, place);
            }
            if (!take(Tape.ROAD) || !take(Tape.NAME)) {
                return false;
            }
            int from = stepTaken();
            if (from != NONE && draft.waysFrom(from) >= MOST_WAYS) {
                return stopAt(ROOM, takenPlace);
            }
            if (!take(Tape.NAME)) {
                return false;
            }
            draft.addRoad(from, stepTaken());
            return take(';');
        }

        private boolean takeSleeper() {
            if (draft.sleepers >= MOST_SLEEPERS) {
                return stopAt(ROOM, place);
            }
            if (!take(Tape.SLEEPER) || !takeNewName(FIRST_SLEEPER + draft.sleepers) || !takeInt(0, DAY - 1)) {
                return false;
            }
            int bed = taken();
            if (!takeInt(1, LONGEST_SLEEP)) {
                return false;
            }
            int span = taken();
            if (!takeInt(0, DAY - 1)) {
                return false;
            }
            draft.addSleeper(bed, span, taken());
            return take(';');
        }

        private boolean takeDoes() {
            if (!take(Tape.DOES) || !take(Tape.NAME)) {
                return false;
            }
            int who = sleeperTaken();
            int start = draft.laws.length;
            if (!takeLaw() || !take(';')) {
                return false;
            }
            draft.setLaw(who, start);
            return true;
        }

        private boolean takeBegins() {
            if (!take(Tape.BEGINS) || !take(Tape.NAME)) {
                return false;
            }
            draft.begins = stepTaken();
            return take(';');
        }

        private boolean takeNaps() {
            if (!take(Tape.NAPS) || !takeInt(0, 100)) {
                return false;
            }
            draft.naps = taken();
            return take(';');
        }

        private boolean takeSeed() {
            if (!take(Tape.SEED) || !takeInt(0, 9999)) {
                return false;
            }
            draft.seed = taken();
            return take(';');
        }

        private boolean takeLaw() {
            if (!take('=')) {
                return false;
            }
            for (int ifs = 0; ifs <= MOST_IFS && kind == Tape.IF; ifs++) {
                if (ifs == MOST_IFS) {
                    return stopAt(ROOM, place);
                }
                if (!take(Tape.IF) || !takeSum(0) || !take('<') || !takeSum(0) || !take(Tape.THEN)) {
                    return false;
                }
                int jump = draft.laws.addJump();
                if (!takeSum(0) || !take(Tape.ELSE)) {
                    return false;
                }
                draft.laws.add(Laws.ANSWER);
                draft.laws.landHere(jump);
            }
            if (!takeSum(0)) {
                return false;
            }
            draft.laws.add(Laws.ANSWER);
            return true;
        }

        private boolean takeSum(int depth) {
            if (!takeProduct(depth)) {
                return false;
            }
            for (int i = 0; i <= MOST_TOKENS && (kind == '+' || kind == '-'); i++) {
                int operation = kind == '+' ? Laws.PLUS : Laws.MINUS;
                if (!take(kind) || !takeProduct(depth)) {
                    return false;
                }
                draft.laws.add(operation);
            }
            return true;
        }

        private boolean takeProduct(int depth) {
            if (!takeUnit(depth)) {
                return false;
            }
            for (int i = 0; i <= MOST_TOKENS && (kind == '*' || kind == '/'); i++) {
                int operation = kind == '*' ? Laws.TIMES : Laws.BY;
                if (!take(kind) || !takeUnit(depth)) {
                    return false;
                }
                draft.laws.add(operation);
            }
            return true;
        }

        private boolean takeUnit(int depth) {
            int unit = kind;
            if (unit == '(') {
                if (depth >= DEEPEST) {
                    return stopAt(ROOM, place);
                }
                return take('(') && takeSum(depth + 1) && take(')');
            }
            boolean isVariable = unit >= Tape.AT && unit <= Tape.MOOD;
            if (!take(isVariable ? unit : Tape.INT)) {
                return false;
            }
            draft.laws.add(isVariable ? Laws.FIRST_VARIABLE - (unit - Tape.AT) : taken());
            return true;
        }

        private boolean take(int wanted) {
            if (kind != wanted || cursor >= MOST_TOKENS) {
                fault = kind != wanted ? SYNTAX : ROOM;
                faultPlace = place;
                return false;
            }
            takenValue = tape.values[cursor];
            takenPlace = place;
            cursor++;
            kind = tape.kinds[cursor];
            place = tape.places[cursor];
            return true;
        }

        private boolean takeInt(int least, int most) {
            if (!take(Tape.INT)) {
                return false;
            }
            if (taken() < least || taken() > most) {
                blame(WRONG);
            }
            return true;
        }

        private boolean takeNewName(int bearer) {
            if (!take(Tape.NAME)) {
                return false;
            }
            if (bearerTaken() != NONE) {
                blame(TWICE);
            } else if (manyNames < MOST_NAMES) {
                names[manyNames] = takenValue;
                bearers[manyNames] = bearer;
                manyNames++;
            }
            return true;
        }

        private int stepTaken() {
            int bearer = bearerTaken();
            if (bearer == NONE || bearer >= FIRST_SLEEPER) {
                blame(NO_NAME);
                return NONE;
            }
            return bearer;
        }

        private int sleeperTaken() {
            int bearer = bearerTaken();
            if (bearer < FIRST_SLEEPER) {
                blame(NO_NAME);
                return NONE;
            }
            return bearer - FIRST_SLEEPER;
        }

        private int bearerTaken() {
            for (int i = 0; i < manyNames; i++) {
                if (names[i] == takenValue) {
                    return bearers[i];
                }
            }
            return NONE;
        }

        private int taken() {
            return (int) takenValue;
        }

        /** SYNTAX and ROOM: whatever else is wrong ahead of it counts only if neither is anywhere. */
        private boolean stopAt(int which, int itsPlace) {
            fault = which;
            faultPlace = itsPlace;
            return false;
        }

        /** The other FAULTS: reading goes on, for SYNTAX or ROOM may still come. */
        private void blame(int which) {
            if (fault == FAULTLESS) {
                fault = which;
                faultPlace = takenPlace;
            }
        }
    }

    /** What a text tells. */
    private static final class House {
        private int steps;
        private int roads;
        private int sleepers;
        private int begins = NOBODY;
        private int naps;
        private int seed;
        private final int[] good = new int[MOST_STEPS];
        private final boolean[] ending = new boolean[MOST_STEPS];
        private final int[] ways = new int[MOST_STEPS];
        private final int[] targets = new int[MOST_STEPS * MOST_WAYS];
        private final int[] beds = new int[MOST_SLEEPERS];
        private final int[] spans = new int[MOST_SLEEPERS];
        private final int[] otherBeds = new int[MOST_SLEEPERS];
        private final int[] lawStarts = new int[MOST_SLEEPERS];
        private final Laws laws = new Laws();

        private void clear() {
            steps = 0;
            roads = 0;
            sleepers = 0;
            begins = NONE;
            naps = 0;
            seed = 0;
            laws.length = 0;
        }

        private void settleBegins() {
            if (steps == 0) {
                begins = NOBODY;
            } else if (begins < 0) {
                begins = 0;
            }
        }

        private void addStep(int itsGood, boolean ends) {
            if (steps < MOST_STEPS) {
                good[steps] = itsGood;
                ending[steps] = ends;
                ways[steps] = 0;
                steps++;
            }
        }

        private void addRoad(int from, int to) {
            roads++;
            if (isStep(from) && ways[from] < MOST_WAYS) {
                targets[from * MOST_WAYS + ways[from]] = to;
                ways[from]++;
            }
        }

        private void addSleeper(int bed, int span, int otherBed) {
            if (sleepers < MOST_SLEEPERS) {
                beds[sleepers] = bed;
                spans[sleepers] = span;
                otherBeds[sleepers] = otherBed;
                lawStarts[sleepers] = NONE;
                sleepers++;
            }
        }

        private void setLaw(int who, int start) {
            if (isSleeper(who)) {
                lawStarts[who] = start;
            }
        }

        private boolean isStep(int step) {
            return step >= 0 && step < steps;
        }

        private boolean isSleeper(int who) {
            return who >= 0 && who < sleepers;
        }

        private int goodOf(int step) {
            return isStep(step) ? good[step] : 0;
        }

        private int waysFrom(int step) {
            return isStep(step) ? ways[step] : 0;
        }

        private boolean isEnd(int step) {
            return isStep(step) && (ending[step] || ways[step] == 0);
        }

        private int target(int step, int road) {
            boolean leads = isStep(step) && road >= 0 && road < ways[step];
            return leads ? targets[step * MOST_WAYS + road] : begins;
        }

        private int bedOf(int who) {
            return isSleeper(who) ? beds[who] : 0;
        }

        private int spanOf(int who) {
            return isSleeper(who) ? spans[who] : 0;
        }

        private int otherBedOf(int who) {
            return isSleeper(who) ? otherBeds[who] : 0;
        }

        private int lawOf(int who) {
            return isSleeper(who) ? lawStarts[who] : NONE;
        }
    }

    /** The LAWS of a text, each a run of operations over a stack. */
    private static final class Laws {
        // Not below 0: an INT itself.
        private static final int PLUS = -1;
        private static final int MINUS = -2;
        private static final int TIMES = -3;
        private static final int BY = -4;
        private static final int UNLESS_LESS = -5;
        private static final int ANSWER = -6;
        private static final int FIRST_VARIABLE = -10;
        // Two values may wait at each depth, one more ahead of '<'.
        private static final int HIGHEST = 2 * (DEEPEST + 1) + 4;
        private static final int MANY_VARIABLES = 7;

        // A LAW has more TOKENS than operations.
        private final int[] code = new int[MOST_TOKENS];
        private int length;
        private final int[] stack = new int[HIGHEST];
        // at, good, night, dreamt, ways, left, mood, as they are when a LAW is asked.
        private final int[] variables = new int[MANY_VARIABLES];

        private void add(int operation) {
            if (length < MOST_TOKENS) {
                code[length] = operation;
                length++;
            }
        }

        private int addJump() {
            add(UNLESS_LESS);
            add(0);
            return length - 1;
        }

        private void landHere(int jump) {
            if (jump >= 0 && jump < length) {
                code[jump] = length;
            }
        }

        private int valueOf(int start) {
            if (start < 0) {
                return 0;
            }
            int top = 0;
            for (int i = start; i < length; i++) {
                int operation = code[i];
                if (operation >= 0 || operation <= FIRST_VARIABLE) {
                    if (top >= HIGHEST) {
                        return 0;
                    }
                    stack[top] = operation >= 0 ? operation : variable(FIRST_VARIABLE - operation);
                    top++;
                    continue;
                }
                if (operation == ANSWER || top < 2) {
                    return top < 1 ? 0 : stack[top - 1];
                }
                top--;
                int left = stack[top - 1];
                int right = stack[top];
                if (operation == BY && right == 0) {
                    return 0;
                }
                if (operation == UNLESS_LESS) {
                    top--;
                    i = left < right ? i + 1 : Math.max(i + 1, landing(i + 1));
                } else {
                    stack[top - 1] = joined(operation, left, right);
                }
            }
            return 0;
        }

        /** Just ahead of where a jump leads. */
        private int landing(int jump) {
            return jump < length ? code[jump] - 1 : length;
        }

        private int variable(int which) {
            return which >= 0 && which < MANY_VARIABLES ? variables[which] : 0;
        }

        private static int joined(int operation, int left, int right) {
            switch (operation) {
                case PLUS:
                    return left + right;
                case MINUS:
                    return left - right;
                case TIMES:
                    return left * right;
                default:
                    return right == 0 ? 0 : left / right;
            }
        }
    }

    /** How all stands in an hour, and how an hour goes by. */
    private static final class State {
        // A sleeper's numbers in the row; the first six as sleeper() tells them.
        private static final int LEFT = 0;
        private static final int GOOD = 1;
        private static final int DREAMT = 2;
        private static final int BED = 3;
        private static final int KNOWN = 4;
        private static final int ANEW = 5;
        private static final int FELL = 6;
        private static final int SEEN = 7;
        private static final int WIDTH = SEEN + MOST_STEPS;
        private static final int ROW = MOST_SLEEPERS * WIDTH;

        private int hour;
        private int at;
        private int dreamer;
        private int endings;
        // Others than the text's only in what would be: which SEED, and whose LAW is 0.
        private int seed;
        private int lawless;
        private int lastWho;
        private int lastStep;
        private boolean lastQuiet;
        private final int[] row = new int[ROW];

        private void begin(House house) {
            hour = 0;
            at = house.begins;
            dreamer = NOBODY;
            endings = 0;
            seed = house.seed;
            lawless = NONE;
            for (int i = 0; i < ROW; i++) {
                row[i] = 0;
            }
            for (int i = 0; i < house.sleepers; i++) {
                put(i, BED, house.bedOf(i));
            }
        }

        private void copyFrom(State other) {
            hour = other.hour;
            at = other.at;
            dreamer = other.dreamer;
            endings = other.endings;
            seed = other.seed;
            lawless = other.lawless;
            System.arraycopy(other.row, 0, row, 0, ROW);
        }

        private int of(int who, int what) {
            int i = who * WIDTH + what;
            return i >= 0 && i < ROW ? row[i] : 0;
        }

        private void put(int who, int what, int value) {
            int i = who * WIDTH + what;
            if (i >= 0 && i < ROW) {
                row[i] = value;
            }
        }

        private void add(int who, int what, int more) {
            int i = who * WIDTH + what;
            if (i >= 0 && i < ROW) {
                row[i] += more;
            }
        }

        private boolean isAsleep(int who) {
            return of(who, LEFT) > 0;
        }

        private int asleep() {
            int bits = 0;
            for (int i = 0; i < MOST_SLEEPERS; i++) {
                bits |= isAsleep(i) ? 1 << i : 0;
            }
            return bits;
        }

        private int tells(int what) {
            switch (what) {
                case 0:
                    return at;
                case 1:
                    return dreamer;
                case 2:
                    return hour % DAY;
                case 3:
                    return hour / DAY;
                case 4:
                    return hour;
                case 5:
                    return endings;
                case 6:
                    return asleep();
                default:
                    return NONE;
            }
        }

        private void layDown(int who, int hours) {
            put(who, LEFT, hours);
            put(who, FELL, 1);
            add(who, ANEW, 1);
        }

        private void rouse(int who) {
            put(who, LEFT, 0);
            if (dreamer == who) {
                dreamer = NOBODY;
            }
        }

        /** As far as there are hours. */
        private void passHours(House house, int n) {
            for (int i = 0; i < n && hour < HOURS; i++) {
                goToBed(house);
                settleDreamer(house);
                lastQuiet = asleep() == 0;
                lastWho = dreamer;
                lastStep = NOBODY;
                if (dreamer >= 0) {
                    dream(house, dreamer);
                }
                sleepAnHour(house);
                hour++;
            }
        }

        private void goToBed(House house) {
            for (int i = 0; i < house.sleepers; i++) {
                if (isAsleep(i)) {
                    continue;
                }
                if (of(i, BED) == hour % DAY) {
                    layDown(i, house.spanOf(i));
                } else if (house.naps > 0 && lot(100, seed, 8 * hour + i) < house.naps) {
                    layDown(i, 1);
                }
            }
        }

        private void settleDreamer(House house) {
            for (int i = 0; i < house.sleepers; i++) {
                if (dreamer == NOBODY && of(i, FELL) == 1 && isAsleep(i)) {
                    dreamer = i;
                }
                put(i, FELL, 0);
            }
        }

        private void dream(House house, int who) {
            if (!house.isStep(at)) {
                return;
            }
            lastStep = at;
            add(who, GOOD, house.goodOf(at));
            add(who, DREAMT, 1);
            add(who, SEEN + at, 1);
            put(who, KNOWN, of(who, KNOWN) | 1 << at);
            if (house.isEnd(at)) {
                endings++;
                at = house.begins;
            } else {
                at = house.target(at, roadTaken(house, who));
            }
        }

        private int roadTaken(House house, int who) {
            int ways = house.waysFrom(at);
            if (ways < 1 || who == lawless) {
                return 0;
            }
            int[] variables = house.laws.variables;
            variables[0] = at;
            variables[1] = house.goodOf(at);
            variables[2] = hour / DAY;
            variables[3] = of(who, SEEN + at);
            variables[4] = ways;
            variables[5] = of(who, LEFT);
            variables[6] = of(who, GOOD);
            return Math.max(0, house.laws.valueOf(house.lawOf(who)) % ways);
        }

        private void sleepAnHour(House house) {
            for (int i = 0; i < house.sleepers; i++) {
                if (of(i, LEFT) > 1) {
                    add(i, LEFT, -1);
                } else if (isAsleep(i)) {
                    rouse(i);
                }
            }
        }

        /** All hours of one in a LINE; whether the STEP came, in the hour that went by last. */
        private boolean sleepInLine(House house, int who, int step) {
            int span = house.spanOf(who);
            for (int left = span; left > 0 && hour < HOURS; left--) {
                put(who, LEFT, left);
                lastStep = NOBODY;
                dream(house, who);
                hour++;
                if (step != NONE && lastStep == step) {
                    return true;
                }
            }
            return false;
        }

        private static int lot(int n, int seed, int which) {
            int h = mixed(mixed(seed, 45), which);
            return n < 1 ? 0 : (h >>> 1) % n;
        }

        private static int mixed(int h, int with) {
            int mixed = (h ^ with) * 1103515245 + 12345;
            return mixed ^ mixed >>> 15;
        }
    }

    /** Who dreamt which STEP in each hour that went by. */
    private static final class Log {
        // Both of an hour in one byte: each slot has such a row.
        private static final int APART = 16;
        private final byte[] rows = new byte[HOURS];

        private void write(int hour, int dreamer, int step) {
            if (hour >= 0 && hour < HOURS) {
                rows[hour] = (byte) ((dreamer - NOBODY) * APART + step - NOBODY);
            }
        }

        private void copyFrom(Log other, int hours) {
            System.arraycopy(other.rows, 0, rows, 0, Math.max(0, Math.min(hours, HOURS)));
        }

        private int whoAt(int hour) {
            return hour >= 0 && hour < HOURS ? rows[hour] / APART + NOBODY : NOBODY;
        }

        private int stepAt(int hour) {
            return hour >= 0 && hour < HOURS ? rows[hour] % APART + NOBODY : NOBODY;
        }

        private int handedOn(int hours, int from, int to) {
            int times = 0;
            int before = NOBODY;
            for (int i = 0; i < hours; i++) {
                int dreamer = whoAt(i);
                if (dreamer != NOBODY) {
                    times += before == from && dreamer == to ? 1 : 0;
                    before = dreamer;
                }
            }
            return times;
        }

        private int followed(int hours, int step, int other) {
            int times = 0;
            int before = NOBODY;
            for (int i = 0; i < hours; i++) {
                int dreamt = stepAt(i);
                if (dreamt != NOBODY) {
                    times += before == other && dreamt == step ? 1 : 0;
                    before = dreamt;
                }
            }
            return times;
        }

        private int dreamersOf(int hours, int step) {
            int bits = 0;
            for (int i = 0; i < hours; i++) {
                if (stepAt(i) == step && whoAt(i) >= 0) {
                    bits |= 1 << whoAt(i);
                }
            }
            return bits;
        }

        private int hourOf(int hours, int step, boolean last) {
            int found = NOBODY;
            for (int i = 0; i < hours; i++) {
                if (stepAt(i) == step && (last || found == NOBODY)) {
                    found = i;
                }
            }
            return found;
        }

        private int longestRow(int hours, int sleeper) {
            int longest = 0;
            int row = 0;
            for (int i = 0; i < hours; i++) {
                int dreamer = whoAt(i);
                boolean goesOn = sleeper == NONE ? dreamer != NOBODY : dreamer == sleeper;
                row = goesOn ? row + 1 : 0;
                longest = Math.max(longest, row);
            }
            return longest;
        }

        private int dreamtHours(int hours) {
            int many = 0;
            for (int i = 0; i < hours; i++) {
                many += whoAt(i) != NOBODY ? 1 : 0;
            }
            return many;
        }
    }

    /** How all stood ahead of each of the last things done, and what SLOTS hold. */
    private static final class Past {
        private final State[] kept = new State[MOST_UNDONE];
        private int next;
        private int many;
        private final State[] slotStates = new State[SLOTS];
        private final Log[] slotLogs = new Log[SLOTS];
        private final boolean[] held = new boolean[SLOTS];

        private Past() {
            for (int i = 0; i < MOST_UNDONE; i++) {
                kept[i] = new State();
            }
            for (int i = 0; i < SLOTS; i++) {
                slotStates[i] = new State();
                slotLogs[i] = new Log();
            }
        }

        private void clear() {
            many = 0;
            for (int i = 0; i < SLOTS; i++) {
                held[i] = false;
            }
        }

        private void keep(State state) {
            kept[next].copyFrom(state);
            next = (next + 1) % MOST_UNDONE;
            many = Math.min(many + 1, MOST_UNDONE);
        }

        /** The log needs no undoing: it counts only as far as the hour. */
        private boolean takeBack(State state) {
            if (many == 0) {
                return false;
            }
            many--;
            next = (next + MOST_UNDONE - 1) % MOST_UNDONE;
            state.copyFrom(kept[next]);
            return true;
        }

        private boolean isHeld(int slot) {
            return slot >= 0 && slot < SLOTS && held[slot];
        }

        private int heldSlots() {
            int slots = 0;
            for (int i = 0; i < SLOTS; i++) {
                slots += held[i] ? 1 : 0;
            }
            return slots;
        }

        private void fillSlot(int slot, State state, Log log) {
            if (slot >= 0 && slot < SLOTS) {
                slotStates[slot].copyFrom(state);
                slotLogs[slot].copyFrom(log, state.hour);
                held[slot] = true;
            }
        }

        private void pourSlot(int slot, State state, Log log) {
            if (isHeld(slot)) {
                state.copyFrom(slotStates[slot]);
                log.copyFrom(slotLogs[slot], state.hour);
                many = 0;
            }
        }
    }

    /** What would be, tried out on a copy. */
    private static final class Trials {
        private final State trial = new State();
        private final int[] gains = new int[(1 << MOST_SLEEPERS) * MOST_SLEEPERS];
        private final long[] stood = new long[MOST_ROUND_HOURS + 1];

        private State later(House house, State now, int n) {
            trial.copyFrom(now);
            trial.passHours(house, n);
            return trial;
        }

        private int nextEnd(House house, State now) {
            trial.copyFrom(now);
            for (int i = 1; i <= HOURS && trial.hour < HOURS; i++) {
                trial.passHours(house, 1);
                if (trial.endings > now.endings) {
                    return i;
                }
            }
            return NOBODY;
        }

        private int gainOf(House house, State now, int who, int n) {
            return later(house, now, n).of(who, State.GOOD) - now.of(who, State.GOOD);
        }

        private int restingSets(House house, State now, int n, int i) {
            int sets = 1 << house.sleepers;
            for (int set = 0; set < sets; set++) {
                tryBeds(house, now, n, set);
            }
            int many = 0;
            for (int set = 0; set < sets; set++) {
                if (isResting(house.sleepers, set)) {
                    if (many == i) {
                        return set;
                    }
                    many++;
                }
            }
            return i == NONE ? many : NONE;
        }

        private void tryBeds(House house, State now, int n, int set) {
            trial.copyFrom(now);
            for (int who = 0; who < house.sleepers; who++) {
                if ((set >> who & 1) == 1) {
                    trial.put(who, State.BED, house.otherBedOf(who));
                }
            }
            trial.passHours(house, n);
            for (int who = 0; who < house.sleepers; who++) {
                gains[set * MOST_SLEEPERS + who] = trial.of(who, State.GOOD) - now.of(who, State.GOOD);
            }
        }

        private boolean isResting(int sleepers, int set) {
            for (int who = 0; who < sleepers; who++) {
                int changed = set ^ 1 << who;
                if (gains[changed * MOST_SLEEPERS + who] > gains[set * MOST_SLEEPERS + who]) {
                    return false;
                }
            }
            return true;
        }

        private int comesRound(House house, State now, int what) {
            trial.copyFrom(now);
            stood[0] = likeness();
            for (int i = 1; i <= MOST_ROUND_HOURS && trial.hour < HOURS; i++) {
                trial.passHours(house, 1);
                stood[i] = likeness();
                // Only hours a whole number of days ahead have the same hour of the day.
                for (int as = i - DAY; as >= 0; as -= DAY) {
                    if (stood[as] == stood[i]) {
                        return what == 0 ? i : as;
                    }
                }
            }
            return NOBODY;
        }

        private long likeness() {
            long all = (trial.at + 2) * 16 + trial.dreamer + 2;
            for (int who = 0; who < MOST_SLEEPERS; who++) {
                all = all * 16 + trial.of(who, State.LEFT);
            }
            return all;
        }

        private int bestHour(House house, State now, int who, int n, int what) {
            int bestHour = NONE;
            int most = 0;
            for (int hour = 0; hour < DAY; hour++) {
                trial.copyFrom(now);
                trial.put(who, State.BED, hour);
                trial.passHours(house, n);
                int gain = trial.of(who, State.GOOD) - now.of(who, State.GOOD);
                if (bestHour == NONE || gain > most) {
                    bestHour = hour;
                    most = gain;
                }
            }
            return what == 0 ? bestHour : most;
        }

        private int bestStep(House house, State now, int n, int what) {
            int bestStep = NONE;
            int most = 0;
            for (int step = 0; step < house.steps; step++) {
                trial.copyFrom(now);
                trial.at = step;
                trial.passHours(house, n);
                int gain = goodOfAll(trial) - goodOfAll(now);
                if (bestStep == NONE || gain > most) {
                    bestStep = step;
                    most = gain;
                }
            }
            return what == 0 ? bestStep : most;
        }

        private static int goodOfAll(State state) {
            int all = 0;
            for (int who = 0; who < MOST_SLEEPERS; who++) {
                all += state.of(who, State.GOOD);
            }
            return all;
        }

        private int quietHours(House house, State now, int what) {
            trial.copyFrom(now);
            int many = 0;
            int first = NOBODY;
            for (int i = 0; i < DAY && trial.hour < HOURS; i++) {
                trial.passHours(house, 1);
                if (trial.lastQuiet) {
                    first = many == 0 ? trial.hour - 1 : first;
                    many++;
                }
            }
            return what == 0 ? many : first;
        }

        private int neededFor(House house, State now, int step) {
            if (!isDreamt(house, now, step, NONE)) {
                return NOBODY;
            }
            int bits = 0;
            for (int who = 0; who < house.sleepers; who++) {
                bits |= isDreamt(house, now, step, who) ? 0 : 1 << who;
            }
            return bits;
        }

        private boolean isDreamt(House house, State now, int step, int lawless) {
            trial.copyFrom(now);
            trial.lawless = lawless;
            for (int i = 0; i < NEEDED_HOURS && trial.hour < HOURS; i++) {
                trial.passHours(house, 1);
                if (trial.lastStep == step) {
                    return true;
                }
            }
            return false;
        }

        private int endsBySeeds(House house, State now, int seeds, int n) {
            int all = 0;
            for (int i = 0; i < seeds; i++) {
                trial.copyFrom(now);
                trial.seed = house.seed + i;
                trial.passHours(house, n);
                all += trial.endings - now.endings;
            }
            return all;
        }
    }

    /** Orders in which all go to bed, place by place, each order's beginning gone through once. */
    private static final class Lines {
        // Nobody can have more GOOD in a LINE.
        private static final int MOST_GAINED = MOST_GOOD * LONGEST_SLEEP;

        private final State[] ahead = new State[MOST_SLEEPERS + 1];
        private final int[] order = new int[MOST_SLEEPERS];
        private final int[] chosen = new int[MOST_SLEEPERS];
        private int from;
        private boolean found;
        private int best;

        private Lines() {
            for (int i = 0; i <= MOST_SLEEPERS; i++) {
                ahead[i] = new State();
            }
        }

        private void start(State now) {
            ahead[0].copyFrom(now);
            from = now.hour;
            found = false;
            best = NOBODY;
        }

        private int chosenAt(int i) {
            return i >= 0 && i < MOST_SLEEPERS ? chosen[i] : NONE;
        }

        private int soonest(House house, State now, int step) {
            start(now);
            seek(house, 0, 0, step);
            return best;
        }

        private void seek(House house, int place, int used, int step) {
            if (place >= MOST_SLEEPERS) {
                return;
            }
            for (int who = 0; who < house.sleepers; who++) {
                if ((used >> who & 1) == 1) {
                    continue;
                }
                order[place] = who;
                State state = ahead[place + 1];
                state.copyFrom(ahead[place]);
                boolean came = state.sleepInLine(house, who, step);
                int hours = state.hour - from;
                // An order that is no sooner by now comes behind the one that was found.
                if (found && hours >= best) {
                    continue;
                }
                if (came) {
                    found = true;
                    best = hours;
                    choose(house, place, used | 1 << who);
                } else {
                    seek(house, place + 1, used | 1 << who, step);
                }
            }
        }

        /** The order as far as the place, then all others by their numbers. */
        private void choose(House house, int place, int used) {
            int next = 0;
            for (int i = 0; i <= place && i < MOST_SLEEPERS; i++) {
                chosen[next] = order[i];
                next++;
            }
            for (int who = 0; who < house.sleepers && next < MOST_SLEEPERS; who++) {
                if ((used >> who & 1) == 0) {
                    chosen[next] = who;
                    next++;
                }
            }
        }

        private int fairest(House house, State now) {
            start(now);
            weigh(house, 0, 0, MOST_GAINED);
            return best;
        }

        private void weigh(House house, int place, int used, int least) {
            // Whoever comes later can only bring the least further down.
            if (found && least <= best) {
                return;
            }
            if (place >= house.sleepers || place >= MOST_SLEEPERS) {
                found = true;
                best = least;
                choose(house, place - 1, used);
                return;
            }
            for (int who = 0; who < house.sleepers; who++) {
                if ((used >> who & 1) == 0) {
                    order[place] = who;
                    State state = ahead[place + 1];
                    state.copyFrom(ahead[place]);
                    state.sleepInLine(house, who, NONE);
                    int gain = state.of(who, State.GOOD) - ahead[place].of(who, State.GOOD);
                    weigh(house, place + 1, used | 1 << who, Math.min(least, gain));
                }
            }
        }
    }

    /** Where ROADS lead, whoever dreams. */
    private static final class Ways {
        private final int[] far = new int[MOST_STEPS];
        private final int[] most = new int[MOST_STEPS];
        private final int[] mostBefore = new int[MOST_STEPS];

        private int reachable(House house, int from) {
            if (!house.isStep(from)) {
                return 0;
            }
            int bits = 1 << from;
            for (int i = 0; i < house.steps; i++) {
                for (int step = 0; step < house.steps; step++) {
                    bits |= (bits >> step & 1) == 1 ? targetsOf(house, step) : 0;
                }
            }
            return bits;
        }

        private static int targetsOf(House house, int step) {
            int bits = 0;
            for (int road = 0; road < house.waysFrom(step); road++) {
                bits |= 1 << house.target(step, road);
            }
            return bits;
        }

        private int distance(House house, int from, int to) {
            for (int step = 0; step < MOST_STEPS; step++) {
                far[step] = step == to ? 0 : NOBODY;
            }
            for (int i = 0; i < house.steps; i++) {
                for (int step = 0; step < house.steps; step++) {
                    bringNearer(house, step);
                }
            }
            return farFrom(from);
        }

        private void bringNearer(House house, int step) {
            for (int road = 0; road < house.waysFrom(step); road++) {
                int beyond = farFrom(house.target(step, road));
                if (beyond != NOBODY && (far[step] == NOBODY || beyond + 1 < far[step])) {
                    far[step] = beyond + 1;
                }
            }
        }

        private int farFrom(int step) {
            return step >= 0 && step < MOST_STEPS ? far[step] : NOBODY;
        }

        /** By the distances that were found last. */
        private int onTheWay(House house, int from, int i) {
            int step = from;
            for (int gone = 0; gone < i && gone < MOST_STEPS; gone++) {
                step = nearer(house, step);
            }
            return step;
        }

        private int nearer(House house, int step) {
            for (int road = 0; road < house.waysFrom(step); road++) {
                int target = house.target(step, road);
                if (farFrom(target) == farFrom(step) - 1) {
                    return target;
                }
            }
            return step;
        }

        private int withoutEnd(House house) {
            int ending = 0;
            for (int step = 0; step < house.steps; step++) {
                ending |= house.isEnd(step) ? 1 << step : 0;
            }
            for (int i = 0; i < house.steps; i++) {
                for (int step = 0; step < house.steps; step++) {
                    ending |= (targetsOf(house, step) & ending) != 0 ? 1 << step : 0;
                }
            }
            return (1 << house.steps) - 1 & ~ending;
        }

        private int bestRow(House house, int from, int n, int what) {
            for (int step = 0; step < MOST_STEPS; step++) {
                most[step] = 0;
            }
            for (int i = 1; i < n; i++) {
                System.arraycopy(most, 0, mostBefore, 0, MOST_STEPS);
                for (int step = 0; step < house.steps; step++) {
                    most[step] = house.goodOf(step) + bestIn(mostBefore, bestNext(house, step, mostBefore));
                }
            }
            int next = bestNext(house, from, most);
            return what == 0 ? house.goodOf(from) + bestIn(most, next) : next;
        }

        private static int bestNext(House house, int step, int[] values) {
            if (house.isEnd(step)) {
                return house.begins;
            }
            int next = house.target(step, 0);
            for (int road = 1; road < house.waysFrom(step); road++) {
                int target = house.target(step, road);
                next = bestIn(values, target) > bestIn(values, next) ? target : next;
            }
            return next;
        }

        private static int bestIn(int[] values, int step) {
            return step >= 0 && step < MOST_STEPS ? values[step] : 0;
        }
    }

    /** What was TOLD of ROADS that were gone, and the NATURES that fit it. */
    private static final class Told {
        private final int[] sleepers = new int[MOST_TOLD];
        private final int[] steps = new int[MOST_TOLD];
        private final int[] roads = new int[MOST_TOLD];
        private int many;

        private int add(int sleeper, int step, int road) {
            if (many >= MOST_TOLD) {
                return NONE;
            }
            sleepers[many] = sleeper;
            steps[many] = step;
            roads[many] = road;
            many++;
            return many - 1;
        }

        private int fitting(House house, int sleeper, int k, int i) {
            int found = 0;
            for (int nature = 0; nature < NATURES * NATURES; nature++) {
                if (isFitting(house, sleeper, k, nature)) {
                    if (found == i) {
                        return 10 * (nature / NATURES) + nature % NATURES;
                    }
                    found++;
                }
            }
            return i == NONE ? found : NONE;
        }

        private boolean isFitting(House house, int sleeper, int k, int nature) {
            for (int i = 0; i < k && i < MOST_TOLD; i++) {
                if (sleepers[i] == sleeper && roadBy(house, nature, steps[i]) != roads[i]) {
                    return false;
                }
            }
            return true;
        }

        private static int roadBy(House house, int nature, int step) {
            int ways = house.waysFrom(step);
            return ways < 1 ? NONE : (nature / NATURES * step + nature % NATURES) % ways;
        }

        private int doubted(House house, int sleeper, int k) {
            int bits = 0;
            for (int step = 0; step < house.steps; step++) {
                int roadBits = 0;
                for (int nature = 0; nature < NATURES * NATURES; nature++) {
                    if (house.waysFrom(step) > 0 && isFitting(house, sleeper, k, nature)) {
                        roadBits |= 1 << roadBy(house, nature, step);
                    }
                }
                bits |= Integer.bitCount(roadBits) > 1 ? 1 << step : 0;
            }
            return bits;
        }
    }
}
