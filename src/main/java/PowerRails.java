import java.util.NoSuchElementException;

/** Power rails in their order. README.md says how to use it; the document says what each call answers. */
public final class PowerRails {
    public static final int NONE = -1;

    private static final int OTHER = -2;
    private static final int SOURCE = -2;

    private static final int MOST_BYTES = 700;
    private static final int MOST_RAILS = 12;
    private static final int MOST_NEEDS = 20;
    private static final int MOST_STEPS = 24;
    private static final int MOST_UNDONE = 20;
    private static final int MOST_LOG = 40;
    private static final int MOST_TICK = 9999;
    private static final int MOST_LOAD = 9999;
    private static final int MOST_LIMIT = 99999;
    private static final int MOST_AHEAD = 300;
    private static final int WATCHED = 100;
    private static final int LOWEST_31_BITS = 0x7fffffff;

    private static final int OFF = 0;
    private static final int WAITS = 1;
    private static final int RISES = 2;
    private static final int UP = 3;
    private static final int FALLS = 4;

    private static final int STEP_ON = 0;
    private static final int STEP_OFF = 1;
    private static final int STEP_WAIT = 2;
    private static final int STEP_GUARD = 3;

    private static final int IDLE = 0;
    private static final int RUNS = 1;
    private static final int DONE = 2;
    private static final int FAILED = 3;

    private static final int LOG_RISES = 0;
    private static final int LOG_UP = 1;
    private static final int LOG_TRIPS = 2;
    private static final int LOG_FALLS = 3;
    private static final int LOG_OFF = 4;
    private static final int LOG_FAILED = 5;
    private static final int LOG_DONE = 6;
    private static final int LOG_AGAIN = 7;

    private static final int DROOP = 0;
    private static final int FALL = 1;
    private static final int LOW = 2;
    private static final int FILTER = 3;
    private static final int TIMES = 4;
    private static final int HOLD = 5;
    private static final int BUDGET = 6;
    private static final int SEED = 7;
    private static final int SETTINGS = 8;

    private final byte[] tape = new byte[MOST_BYTES];
    private final Reader reader = new Reader(tape);
    private final Board[] past = new Board[MOST_UNDONE];
    private final Board image;
    private final Board now;
    private final Board scratch;
    private Plan plan = new Plan();
    private int tapeLength;
    private int faultKind;
    private int faultPlace = NONE;
    private boolean imageKept;
    private int pastFirst;
    private int pastCount;

    /** An object without rails, its tape empty. */
    public PowerRails() {
        plan.forget();
        image = new Board(plan);
        now = new Board(plan);
        scratch = new Board(plan);
        for (int k = 0; k < MOST_UNDONE; k++) {
            past[k] = new Board(plan);
        }
    }

    // The text.

    public int feed(int a, int b, int c, int d, int e) {
        if (tapeLength + 20 > MOST_BYTES) {
            return NONE;
        }
        putWord(a);
        putWord(b);
        putWord(c);
        putWord(d);
        putWord(e);
        return tapeLength;
    }

    private void putWord(int word) {
        for (int shift = 24; shift >= 0 && tapeLength < MOST_BYTES; shift -= 8) {
            tape[tapeLength] = (byte) (word >> shift);
            tapeLength++;
        }
    }

    public int text(int n) {
        if (n < 0 || n > tapeLength) {
            return OTHER;
        }
        tapeLength = 0;
        int lines = reader.readAll(n);
        faultKind = reader.fault;
        faultPlace = reader.fault == 0 ? NONE : reader.place;
        if (reader.fault != 0) {
            return NONE;
        }
        Plan before = plan;
        plan = reader.plan;
        reader.plan = before;
        plan.tieTogether();
        now.start(plan);
        imageKept = false;
        forgetPast();
        return lines;
    }

    public int fault(int what) {
        switch (what) {
            case 0: return faultKind;
            case 1: return faultPlace;
            default: return NONE;
        }
    }

    public int named(int letters) {
        return plan.find(letters);
    }

    // What changes it.

    public int tick(int n) {
        if (n < 1 || n > 50) {
            return NONE;
        }
        if (now.tick + n > MOST_TICK) {
            return OTHER;
        }
        remember();
        for (int k = 0; k < n; k++) {
            now.pass();
        }
        return now.tick;
    }

    public int ask(int rail, boolean off) {
        if (!isRail(rail)) {
            return NONE;
        }
        remember();
        now.askRail(rail, off);
        return now.rails[rail].state;
    }

    public int begin() {
        if (plan.steps == 0) {
            return NONE;
        }
        if (now.mode == RUNS) {
            return OTHER;
        }
        remember();
        now.runFromFirst();
        return plan.steps;
    }

    public int load(int rail, int n) {
        if (!isRail(rail) || n < 0 || n > MOST_LOAD) {
            return NONE;
        }
        remember();
        int was = now.rails[rail].load;
        now.rails[rail].load = n;
        return was;
    }

    public int limit(int rail, int n) {
        if (!isRail(rail) || n < 1 || n > MOST_LIMIT) {
            return NONE;
        }
        remember();
        int was = now.rails[rail].limit;
        now.rails[rail].limit = n;
        return was;
    }

    // What stands.

    public int rail(int rail, int what) throws IndexOutOfBoundsException, NoSuchElementException {
        if (!isRail(rail)) {
            throw new IndexOutOfBoundsException();
        }
        Rail r = now.rails[rail];
        switch (what) {
            case 0: return plan.parent[rail];
            case 1: return plan.level[rail];
            case 2: return plan.ramp[rail];
            case 3: return plan.charge[rail];
            case 4: return r.load;
            case 5: return r.limit;
            case 6: return r.state;
            case 7: return r.volts;
            case 8: return r.draw;
            case 9: return r.over ? 1 : 0;
            case 10: return now.isGood(rail) ? 1 : 0;
            case 11: return r.began;
            case 12: return r.trips;
            case 13: return r.retries;
            case 14: return r.again < 0 ? OTHER : r.again - now.tick;
            default: throw new NoSuchElementException();
        }
    }

    public int hangs(int rail, int what) {
        if (!isRail(rail)) {
            return NONE;
        }
        switch (what) {
            case 0: return plan.needs[rail];
            case 1: return plan.above[rail];
            case 2: return plan.below[rail];
            default: return NONE;
        }
    }

    public int waiting(int k, boolean row) {
        if (k < 0) {
            return NONE;
        }
        return row ? now.row.at(k) : now.waiting.at(k);
    }

    public int sequence(int what) {
        switch (what) {
            case 0: return now.mode;
            case 1: return now.step;
            case 2: return now.stay;
            default: return NONE;
        }
    }

    public int step(int k, int what) {
        if (k < 0 || k >= plan.steps) {
            return NONE;
        }
        switch (what) {
            case 0: return plan.stepKind[k];
            case 1: return plan.stepRail[k];
            case 2: return plan.stepTime[k];
            default: return NONE;
        }
    }

    public int why(int rail) {
        if (!isRail(rail)) {
            return NONE;
        }
        if (now.rails[rail].state != WAITS) {
            return OTHER;
        }
        return now.heldBy(rail, now.goodRails());
    }

    public int ring(int i) {
        if (i < 0) {
            return NONE;
        }
        return Rings.railAt(plan, i);
    }

    public int never(int what) {
        switch (what) {
            case 0: return Rings.within(plan);
            case 1: return Rings.withinOrAbove(plan);
            default: return NONE;
        }
    }

    public int order(int i) {
        if (!isRail(i)) {
            return NONE;
        }
        return Orders.railAt(now, i);
    }

    public int heat() {
        return Orders.leastHeat(now, plan.allRails());
    }

    public int total() {
        return now.total;
    }

    public int log(int k, int what) {
        if (k < 0 || k >= now.logKept()) {
            return NONE;
        }
        int entry = now.logEntry(k);
        switch (what) {
            case 0: return entry >> 7;
            case 1: return ((entry >> 3) & 15) + OTHER;
            case 2: return entry & 7;
            default: return NONE;
        }
    }

    public int count(int what) {
        switch (what) {
            case 0: return plan.rails;
            case 1: return plan.needLines;
            case 2: return plan.steps;
            case 3: return now.tick;
            case 4: return now.waiting.size;
            case 5: return now.row.size;
            case 6: return Integer.bitCount(now.goodRails());
            case 7: return now.allTrips();
            case 8: return now.logKept();
            case 9: return pastCount;
            case 10: return tapeLength;
            default: return NONE;
        }
    }

    // What would be.

    public int ahead(int rail, int n, int what) {
        if (!isRail(rail) || n < 0 || n > MOST_AHEAD || what < 0 || what > 3) {
            return NONE;
        }
        scratch.copyFrom(now);
        Rail r = scratch.rails[rail];
        int greatest = r.draw;
        for (int k = 0; k < n; k++) {
            scratch.pass();
            greatest = Math.max(greatest, r.draw);
        }
        switch (what) {
            case 0: return r.state;
            case 1: return r.volts;
            case 2: return greatest;
            default: return r.trips - now.rails[rail].trips;
        }
    }

    public int peak(int n) {
        if (n < 0 || n > MOST_AHEAD) {
            return NONE;
        }
        scratch.copyFrom(now);
        int greatest = scratch.total;
        for (int k = 0; k < n; k++) {
            scratch.pass();
            greatest = Math.max(greatest, scratch.total);
        }
        return greatest;
    }

    public int quiet() {
        scratch.copyFrom(now);
        for (int k = 0; k < MOST_AHEAD; k++) {
            if (scratch.isQuiet()) {
                return k;
            }
            scratch.pass();
        }
        return scratch.isQuiet() ? MOST_AHEAD : OTHER;
    }

    public int leastLimit(int rail) {
        if (!isRail(rail)) {
            return NONE;
        }
        scratch.copyFrom(now);
        Rail r = scratch.rails[rail];
        // A limit that is never passed changes nothing, so the greatest draw without one is the answer.
        r.limit = LOWEST_31_BITS;
        int greatest = 1;
        for (int k = 0; k < WATCHED; k++) {
            scratch.pass();
            greatest = Math.max(greatest, r.draw);
        }
        return greatest > MOST_LIMIT ? OTHER : greatest;
    }

    public int ifLoad(int rail, int n) {
        if (!isRail(rail) || n < 0 || n > MOST_LOAD) {
            return NONE;
        }
        scratch.copyFrom(now);
        scratch.rails[rail].load = n;
        for (int k = 0; k < WATCHED; k++) {
            scratch.pass();
        }
        int tripped = 0;
        for (int i = 0; i < plan.rails; i++) {
            if (scratch.rails[i].trips > now.rails[i].trips) {
                tripped |= 1 << i;
            }
        }
        return tripped;
    }

    public int ifOff(int rail) {
        if (!isRail(rail)) {
            return NONE;
        }
        scratch.copyFrom(now);
        scratch.askRail(rail, true);
        int toRow = scratch.row.bits & ~now.row.bits;
        int offAtOnce = now.waiting.bits & ~scratch.waiting.bits;
        return toRow | offAtOnce;
    }

    public int bestOff(int n) {
        if (n < 1 || n > 60) {
            return NONE;
        }
        int best = OTHER;
        int least = 0;
        for (int i = 0; i < plan.rails; i++) {
            if (now.isOn(i)) {
                int then = totalIfOff(i, n);
                if (best < 0 || then < least) {
                    best = i;
                    least = then;
                }
            }
        }
        return best;
    }

    private int totalIfOff(int rail, int n) {
        scratch.copyFrom(now);
        scratch.askRail(rail, true);
        for (int k = 0; k < n; k++) {
            scratch.pass();
        }
        return scratch.total;
    }

    public int chance(int seed, int n, int p, int what) {
        if (seed < -1 || n < 1 || n > 200 || p < 1 || p > 9999 || what < 0 || what > 2) {
            return NONE;
        }
        scratch.copyFrom(now);
        int greatest = scratch.passByChance(seed < 0 ? plan.setting[SEED] : seed, n, p);
        switch (what) {
            case 0: return greatest;
            case 1: return scratch.allTrips() - now.allTrips();
            default: return scratch.goodRails();
        }
    }

    // Undoing and the image.

    public int undo() {
        if (pastCount == 0) {
            return NONE;
        }
        pastCount--;
        now.copyFrom(past[(pastFirst + pastCount) % MOST_UNDONE]);
        return pastCount;
    }

    public int keep() {
        image.copyFrom(now);
        imageKept = true;
        return now.tick;
    }

    public int back() {
        if (!imageKept) {
            return NONE;
        }
        now.copyFrom(image);
        forgetPast();
        return now.tick;
    }

    private void remember() {
        if (pastCount == MOST_UNDONE) {
            pastFirst = (pastFirst + 1) % MOST_UNDONE;
            pastCount--;
        }
        past[(pastFirst + pastCount) % MOST_UNDONE].copyFrom(now);
        pastCount++;
    }

    private void forgetPast() {
        pastFirst = 0;
        pastCount = 0;
    }

    private boolean isRail(int rail) {
        return rail >= 0 && rail < plan.rails;
    }

    /** What a text tells, and what follows from it alone. */
    private static final class Plan {
        int rails;
        int needLines;
        int steps;
        final int[] name = new int[MOST_RAILS];
        final int[] parent = new int[MOST_RAILS];
        final int[] level = new int[MOST_RAILS];
        final int[] ramp = new int[MOST_RAILS];
        final int[] charge = new int[MOST_RAILS];
        final int[] firstLoad = new int[MOST_RAILS];
        final int[] firstLimit = new int[MOST_RAILS];
        final int[] needs = new int[MOST_RAILS];
        final int[] direct = new int[MOST_RAILS];
        final int[] above = new int[MOST_RAILS];
        final int[] below = new int[MOST_RAILS];
        final int[] stepKind = new int[MOST_STEPS];
        final int[] stepRail = new int[MOST_STEPS];
        final int[] stepTime = new int[MOST_STEPS];
        final int[] setting = new int[SETTINGS];

        void forget() {
            rails = 0;
            needLines = 0;
            steps = 0;
            setting[DROOP] = 50;
            setting[FALL] = 500;
            setting[LOW] = 90;
            setting[FILTER] = 1;
            setting[TIMES] = 0;
            setting[HOLD] = 10;
            setting[BUDGET] = 99999;
            setting[SEED] = 0;
        }

        int find(int letters) {
            for (int i = 0; i < rails; i++) {
                if (name[i] == letters) {
                    return i;
                }
            }
            return NONE;
        }

        int allRails() {
            return (1 << rails) - 1;
        }

        void addNeed(int rail, int needed) {
            if (rail >= 0 && rail < rails && needLines < MOST_NEEDS) {
                needs[rail] |= 1 << needed;
                needLines++;
            }
        }

        void addStep(int kind, int rail, int time) {
            if (steps < MOST_STEPS) {
                stepKind[steps] = kind;
                stepRail[steps] = rail;
                stepTime[steps] = time;
                steps++;
            }
        }

        /** Finds what hangs on what, from parents and needs. */
        void tieTogether() {
            for (int i = 0; i < rails; i++) {
                direct[i] = needs[i] | (parent[i] >= 0 ? 1 << parent[i] : 0);
                above[i] = direct[i];
                below[i] = 0;
            }
            for (int through = 0; through < rails; through++) {
                for (int i = 0; i < rails; i++) {
                    if (((above[i] >> through) & 1) != 0) {
                        above[i] |= above[through];
                    }
                }
            }
            for (int i = 0; i < rails; i++) {
                for (int j = 0; j < rails; j++) {
                    below[i] |= ((above[j] >> i) & 1) << j;
                }
            }
        }

        int directOfAll(int set) {
            int found = 0;
            for (int i = 0; i < rails; i++) {
                if (((set >> i) & 1) != 0) {
                    found |= direct[i];
                }
            }
            return found;
        }

        /** The most that the charge of a rail takes in one tick of its rising. */
        int surge(int i) {
            return charge[i] * Math.min(ramp[i], level[i]) / 16;
        }
    }

    /** Reads a text token by token; the first fault ends it. */
    private static final class Reader {
        /** The words of the language, six letters of room each: lines first, the steps and the settings in a row. */
        private static final String WORDS =
            "rail  needs on    off   wait  guard droop fall  low   filterretry budgetseed  source";
        private static final int WORD_ROOM = 6;
        private static final int WORD_COUNT = 14;
        private static final int RAIL = 0;
        private static final int NEEDS = 1;
        private static final int FIRST_STEP = 2;
        private static final int FIRST_SETTING = 6;
        private static final int SOURCE_WORD = 13;

        private static final int END = 0;
        private static final int NAME = 1;
        private static final int WORD = 2;
        private static final int NUMBER = 3;
        private static final int STOP = 4;
        private static final int STRANGE = 5;

        private static final int WRONG_TOKEN = 1;
        private static final int TOO_MUCH = 2;
        private static final int TOLD_ALREADY = 3;
        private static final int NOT_TOLD = 4;

        /** Above each number that the language takes; longer ones stay here. */
        private static final int HUGE = 1000000;

        Plan plan = new Plan();
        int fault;
        int place;
        private final int[] wordLetters = new int[WORD_COUNT];
        private final int[] kinds = new int[MOST_BYTES + 1];
        private final int[] values = new int[MOST_BYTES + 1];
        private final int[] places = new int[MOST_BYTES + 1];
        private int tokens;
        private final byte[] bytes;
        private int length;
        private int at;
        private int kind;
        private int value;
        private int next;
        private int settingsTold;

        Reader(byte[] tape) {
            bytes = tape;
            for (int k = 0; k < WORD_COUNT; k++) {
                wordLetters[k] = lettersOf(k);
            }
        }

        /** Reads the first n bytes into the plan: how many lines these have, if there is no fault. */
        int readAll(int n) {
            cutAll(n);
            plan.forget();
            settingsTold = 0;
            fault = 0;
            next = 0;
            advance();
            int lines = 0;
            for (int k = 0; k < tokens && kind != END && fault == 0; k++) {
                readLine();
                lines++;
            }
            return lines;
        }

        private void readLine() {
            if (kind != WORD || value == SOURCE_WORD) {
                refuse(WRONG_TOKEN);
            } else if (value == RAIL) {
                readRail();
            } else if (value == NEEDS) {
                readNeed();
            } else if (value < FIRST_SETTING) {
                readStep(value - FIRST_STEP);
            } else {
                readSetting(value);
            }
            take(STOP);
        }

        private void readRail() {
            if (plan.rails >= MOST_RAILS) {
                refuse(TOO_MUCH);
                return;
            }
            int i = plan.rails;
            advance();
            plan.name[i] = freshName();
            plan.parent[i] = parentOrSource();
            plan.level[i] = number(1, 9999);
            plan.ramp[i] = number(1, 9999);
            plan.charge[i] = number(0, 99);
            plan.firstLoad[i] = number(0, 999);
            plan.firstLimit[i] = number(1, MOST_LIMIT);
            plan.needs[i] = 0;
            plan.rails++;
        }

        private void readNeed() {
            if (plan.needLines >= MOST_NEEDS) {
                refuse(TOO_MUCH);
                return;
            }
            advance();
            int rail = toldRail();
            if (fault != 0) {
                return;
            }
            int needed = kind == NAME ? plan.find(value) : NONE;
            if (needed == rail) {
                refuse(TOO_MUCH);
            } else if (needed >= 0 && ((plan.needs[rail] >> needed) & 1) != 0) {
                refuse(TOLD_ALREADY);
            } else {
                plan.addNeed(rail, toldRail());
            }
        }

        private void readStep(int step) {
            if (plan.steps >= MOST_STEPS) {
                refuse(TOO_MUCH);
                return;
            }
            advance();
            int rail = step == STEP_WAIT ? OTHER : toldRail();
            int time = step == STEP_WAIT || step == STEP_GUARD ? number(1, 99) : 0;
            plan.addStep(step, rail, time);
        }

        private void readSetting(int word) {
            if (((settingsTold >> word) & 1) != 0) {
                refuse(TOLD_ALREADY);
                return;
            }
            settingsTold |= 1 << word;
            advance();
            switch (word - FIRST_SETTING) {
                case 0: plan.setting[DROOP] = number(1, 999); break;
                case 1: plan.setting[FALL] = number(1, 9999); break;
                case 2: plan.setting[LOW] = number(1, 100); break;
                case 3: plan.setting[FILTER] = number(1, 9); break;
                case 4:
                    plan.setting[TIMES] = number(0, 9);
                    plan.setting[HOLD] = number(1, 99);
                    break;
                case 5: plan.setting[BUDGET] = number(1, 999999); break;
                default: plan.setting[SEED] = number(0, 99999); break;
            }
        }

        // Each of these takes the token that it stands at, if it is right; behind a fault they do nothing.

        private int freshName() {
            int letters = value;
            if (fault == 0 && kind == NAME && plan.find(letters) >= 0) {
                refuse(TOLD_ALREADY);
            }
            take(NAME);
            return letters;
        }

        private int toldRail() {
            int rail = plan.find(value);
            if (fault == 0 && kind == NAME && rail < 0) {
                refuse(NOT_TOLD);
            }
            take(NAME);
            return Math.max(rail, 0);
        }

        private int parentOrSource() {
            if (kind == WORD && value == SOURCE_WORD) {
                take(WORD);
                return SOURCE;
            }
            return toldRail();
        }

        private int number(int least, int most) {
            int n = value;
            if (fault == 0 && kind == NUMBER && (n < least || n > most)) {
                refuse(TOO_MUCH);
            }
            take(NUMBER);
            return n;
        }

        private void take(int wanted) {
            if (fault != 0) {
                return;
            }
            if (kind == wanted) {
                advance();
            } else {
                refuse(WRONG_TOKEN);
            }
        }

        private void refuse(int what) {
            fault = what;
            place = next >= 1 && next <= MOST_BYTES + 1 ? places[next - 1] : length;
        }

        private void advance() {
            if (next >= 0 && next < tokens && next <= MOST_BYTES) {
                kind = kinds[next];
                value = values[next];
                next++;
            }
        }

        // Cutting the text into tokens, the last of them its end.

        private void cutAll(int n) {
            length = n;
            at = 0;
            kind = NONE;
            for (int k = 0; k <= MOST_BYTES && kind != END; k++) {
                skipBlanks();
                places[k] = at;
                value = 0;
                cutToken(peekByte());
                kinds[k] = kind;
                values[k] = value;
                tokens = k + 1;
            }
        }

        private void skipBlanks() {
            int c = peekByte();
            for (int k = 0; k < MOST_BYTES && (c == 10 || c == 32); k++) {
                at++;
                c = peekByte();
            }
        }

        private void cutToken(int c) {
            if (c < 0) {
                kind = END;
            } else if (isLetter(c)) {
                cutWord();
            } else if (isDigit(c)) {
                cutNumber();
            } else {
                kind = c == ';' ? STOP : STRANGE;
                at++;
            }
        }

        private int peekByte() {
            return at >= 0 && at < length && at < bytes.length ? bytes[at] & 255 : NONE;
        }

        private void cutWord() {
            int letters = 0;
            int size = 0;
            int c = peekByte();
            for (int k = 0; k < MOST_BYTES && isLetter(c); k++) {
                if (size < WORD_ROOM) {
                    letters |= letterBits(c, size);
                }
                size++;
                at++;
                c = peekByte();
            }
            if (size > WORD_ROOM) {
                kind = STRANGE;
                return;
            }
            int word = wordOfLanguage(letters);
            kind = word >= 0 ? WORD : NAME;
            value = word >= 0 ? word : letters;
        }

        private void cutNumber() {
            int c = peekByte();
            for (int k = 0; k < MOST_BYTES && isDigit(c); k++) {
                value = Math.min(HUGE, value * 10 + (c - '0'));
                at++;
                c = peekByte();
            }
            kind = NUMBER;
        }

        private int wordOfLanguage(int letters) {
            for (int k = 0; k < WORD_COUNT; k++) {
                if (wordLetters[k] == letters) {
                    return k;
                }
            }
            return NONE;
        }

        private static int lettersOf(int word) {
            int letters = 0;
            int start = word * WORD_ROOM;
            for (int k = 0; k < WORD_ROOM && start + k < WORDS.length(); k++) {
                int c = WORDS.charAt(start + k);
                if (isLetter(c)) {
                    letters |= letterBits(c, k);
                }
            }
            return letters;
        }

        private static int letterBits(int letter, int place) {
            return (letter - 'a' + 1) << (25 - 5 * place);
        }

        private static boolean isLetter(int c) {
            return c >= 'a' && c <= 'z';
        }

        private static boolean isDigit(int c) {
            return c >= '0' && c <= '9';
        }
    }

    /** Rails by number, one behind another, none twice. */
    private static final class Queue {
        final int[] item = new int[MOST_RAILS];
        int size;
        int bits;

        int at(int k) {
            return k >= 0 && k < size && k < MOST_RAILS ? item[k] : OTHER;
        }

        boolean holds(int i) {
            return ((bits >> i) & 1) != 0;
        }

        void add(int i) {
            if (size < MOST_RAILS && ((bits >> i) & 1) == 0) {
                item[size] = i;
                size++;
                bits |= 1 << i;
            }
        }

        void drop(int i) {
            int kept = 0;
            for (int k = 0; k < size && k < MOST_RAILS; k++) {
                if (item[k] != i) {
                    item[kept] = item[k];
                    kept++;
                }
            }
            size = kept;
            bits &= ~(1 << i);
        }

        void forget() {
            size = 0;
            bits = 0;
        }

        void copyFrom(Queue other) {
            size = other.size;
            bits = other.bits;
            System.arraycopy(other.item, 0, item, 0, MOST_RAILS);
        }
    }

    /** What changes of a rail. */
    private static final class Rail {
        int load;
        int limit;
        int state;
        int volts;
        int rose;
        int draw;
        boolean over;
        int lowTicks;
        int began;
        int trips;
        int retries;
        int again;
        boolean wentByTrip;

        void start(int firstLoad, int firstLimit) {
            load = firstLoad;
            limit = firstLimit;
            state = OFF;
            volts = 0;
            rose = 0;
            draw = 0;
            over = false;
            lowTicks = 0;
            began = OTHER;
            trips = 0;
            retries = 0;
            again = OTHER;
            wentByTrip = false;
        }

        void copyFrom(Rail other) {
            load = other.load;
            limit = other.limit;
            state = other.state;
            volts = other.volts;
            rose = other.rose;
            draw = other.draw;
            over = other.over;
            lowTicks = other.lowTicks;
            began = other.began;
            trips = other.trips;
            retries = other.retries;
            again = other.again;
            wentByTrip = other.wentByTrip;
        }
    }

    /** All that an image keeps, and how a tick changes it. */
    private static final class Board {
        final Rail[] rails = new Rail[MOST_RAILS];
        final Queue waiting = new Queue();
        final Queue row = new Queue();
        final int[] logRow = new int[MOST_LOG];
        Plan plan;
        int tick;
        int total;
        int mode;
        int step;
        int stay;
        int logged;

        Board(Plan first) {
            plan = first;
            for (int i = 0; i < MOST_RAILS; i++) {
                rails[i] = new Rail();
            }
        }

        void start(Plan told) {
            plan = told;
            for (int i = 0; i < MOST_RAILS; i++) {
                rails[i].start(plan.firstLoad[i], plan.firstLimit[i]);
            }
            waiting.forget();
            row.forget();
            tick = 0;
            total = 0;
            mode = IDLE;
            step = 0;
            stay = 0;
            logged = 0;
        }

        void copyFrom(Board other) {
            plan = other.plan;
            for (int i = 0; i < plan.rails; i++) {
                rails[i].copyFrom(other.rails[i]);
            }
            waiting.copyFrom(other.waiting);
            row.copyFrom(other.row);
            System.arraycopy(other.logRow, 0, logRow, 0, MOST_LOG);
            tick = other.tick;
            total = other.total;
            mode = other.mode;
            step = other.step;
            stay = other.stay;
            logged = other.logged;
        }

        // What stands.

        boolean isGood(int i) {
            return rails[i].state == UP && rails[i].volts * 100 >= plan.level[i] * plan.setting[LOW];
        }

        boolean isOn(int i) {
            return rails[i].state == RISES || rails[i].state == UP;
        }

        int goodRails() {
            int good = 0;
            for (int i = 0; i < plan.rails; i++) {
                if (isGood(i)) {
                    good |= 1 << i;
                }
            }
            return good;
        }

        int allTrips() {
            int sum = 0;
            for (int i = 0; i < plan.rails; i++) {
                sum += rails[i].trips;
            }
            return sum;
        }

        /** 1: its parent isn't good, 2: what it needs isn't, 0: nothing keeps it from rising. */
        int heldBy(int i, int good) {
            if (plan.parent[i] >= 0 && ((good >> plan.parent[i]) & 1) == 0) {
                return 1;
            }
            return (plan.needs[i] & ~good) != 0 ? 2 : 0;
        }

        boolean isQuiet() {
            if (waiting.size > 0 || row.size > 0 || mode == RUNS) {
                return false;
            }
            for (int i = 0; i < plan.rails; i++) {
                Rail r = rails[i];
                boolean settled = r.state == OFF || r.state == UP && r.volts >= plan.level[i];
                if (!settled || r.again >= 0) {
                    return false;
                }
            }
            return true;
        }

        // The log.

        int logKept() {
            return Math.min(logged, MOST_LOG);
        }

        /** The k-th latest entry: tick, rail and 2, what, in 4 and 3 bits the last two. */
        int logEntry(int k) {
            return logRow[Math.floorMod(logged - 1 - k, MOST_LOG)];
        }

        private void write(int rail, int what) {
            logRow[Math.floorMod(logged, MOST_LOG)] = (tick << 7) | ((rail - OTHER) << 3) | what;
            logged++;
        }

        // Asking and unwinding.

        void askRail(int i, boolean off) {
            Rail r = rails[i];
            r.again = OTHER;
            r.retries = 0;
            // It may be in the row or fall by its own trip: what has been asked since counts, not that trip.
            r.wentByTrip = false;
            if (!off) {
                waitIfOff(i);
            } else if (r.state == WAITS) {
                r.state = OFF;
                waiting.drop(i);
            } else if (isOn(i)) {
                unwind((1 << i) | plan.below[i]);
            }
        }

        private void waitIfOff(int i) {
            if (rails[i].state == OFF) {
                rails[i].state = WAITS;
                waiting.add(i);
            }
        }

        private void unwind(int set) {
            for (int i = 0; i < plan.rails; i++) {
                if (((set >> i) & 1) != 0 && rails[i].state == WAITS) {
                    rails[i].state = OFF;
                    waiting.drop(i);
                }
            }
            int next = latestToGo(set);
            for (int k = 0; k < MOST_RAILS && next >= 0; k++) {
                row.add(next);
                rails[next].wentByTrip = false;
                next = latestToGo(set);
            }
        }

        /** Of a set, the rail that began to rise latest and isn't in the row yet. */
        private int latestToGo(int set) {
            int free = set & ~row.bits;
            int latest = NONE;
            for (int i = 0; i < plan.rails; i++) {
                int state = rails[i].state;
                boolean may = ((free >> i) & 1) != 0 && (state == RISES || state == UP);
                if (may && (latest < 0 || rails[i].began >= rails[latest].began)) {
                    latest = i;
                }
            }
            return latest;
        }

        private void trip(int i) {
            rails[i].trips++;
            write(i, LOG_TRIPS);
            unwind((1 << i) | plan.below[i]);
            rails[i].wentByTrip = true;
            if (mode == RUNS) {
                failSequence();
            }
        }

        private void failSequence() {
            mode = FAILED;
            write(OTHER, LOG_FAILED);
        }

        void runFromFirst() {
            mode = RUNS;
            step = 0;
            stay = 0;
        }

        // The tick, in the order of its parts.

        void pass() {
            tick++;
            comeAgain();
            runSequence();
            beginToRise();
            moveVolts();
            measureDraws();
            tripTheLow();
            if (total > plan.setting[BUDGET]) {
                tripTheLatest();
            }
            letFirstFall();
        }

        /** Ticks with a load by chance ahead of each: the greatest total behind any of these. */
        int passByChance(int seed, int n, int p) {
            int number = seed;
            int greatest = 0;
            int count = plan.rails;
            for (int k = 0; k < n; k++) {
                if (count > 0) {
                    number = following(number);
                    int i = drawn(number, count);
                    number = following(number);
                    rails[i].load = drawn(number, p + 1);
                }
                pass();
                greatest = Math.max(greatest, total);
            }
            return greatest;
        }

        private static int following(int number) {
            return (number * 1103515245 + 12345) & LOWEST_31_BITS;
        }

        private static int drawn(int number, int modulo) {
            return modulo > 0 ? (number >> 16) % modulo : 0;
        }

        private void comeAgain() {
            for (int i = 0; i < plan.rails; i++) {
                Rail r = rails[i];
                if (r.again == tick) {
                    r.again = OTHER;
                    if (r.state == OFF) {
                        waitIfOff(i);
                        r.retries++;
                        write(i, LOG_AGAIN);
                    }
                }
            }
        }

        private void runSequence() {
            for (int k = 0; k <= MOST_STEPS && mode == RUNS; k++) {
                if (step < 0 || step >= plan.steps) {
                    mode = DONE;
                    write(OTHER, LOG_DONE);
                } else if (takesStep()) {
                    step++;
                    stay = 0;
                } else {
                    return;
                }
            }
        }

        /** Whether the step that it is at is behind it now. */
        private boolean takesStep() {
            int kind = plan.stepKind[step];
            int i = plan.stepRail[step];
            int time = plan.stepTime[step];
            switch (kind) {
                case STEP_ON:
                case STEP_OFF:
                    askRail(i, kind == STEP_OFF);
                    return true;
                case STEP_WAIT:
                    if (stay >= time) {
                        return true;
                    }
                    stay++;
                    return false;
                default:
                    if (isGood(i)) {
                        return true;
                    }
                    stay++;
                    if (stay >= time) {
                        failSequence();
                        unwind(plan.allRails());
                    }
                    return false;
            }
        }

        private void beginToRise() {
            int good = goodRails();
            int k = 0;
            for (int round = 0; round < MOST_RAILS && k < waiting.size; round++) {
                int i = waiting.at(k);
                if (i >= 0 && heldBy(i, good) == 0) {
                    waiting.drop(i);
                    rails[i].state = RISES;
                    rails[i].began = tick;
                    write(i, LOG_RISES);
                } else {
                    k++;
                }
            }
        }

        private void moveVolts() {
            for (int i = 0; i < plan.rails; i++) {
                Rail r = rails[i];
                int was = r.volts;
                int risen = Math.min(plan.level[i], was + plan.ramp[i]);
                switch (r.state) {
                    case RISES:
                        r.volts = risen;
                        if (risen == plan.level[i]) {
                            r.state = UP;
                            write(i, LOG_UP);
                        }
                        break;
                    case UP:
                        r.volts = r.over ? Math.max(0, was - plan.setting[DROOP]) : risen;
                        break;
                    case FALLS:
                        r.volts = Math.max(0, was - plan.setting[FALL]);
                        if (r.volts == 0) {
                            goOff(i);
                        }
                        break;
                    default:
                        break;
                }
                r.rose = Math.max(0, r.volts - was);
            }
        }

        private void goOff(int i) {
            Rail r = rails[i];
            r.state = OFF;
            write(i, LOG_OFF);
            if (r.wentByTrip && r.retries < plan.setting[TIMES]) {
                r.again = tick + plan.setting[HOLD];
            }
        }

        private void measureDraws() {
            total = 0;
            for (int i = 0; i < plan.rails; i++) {
                rails[i].draw = 0;
            }
            for (int i = plan.rails - 1; i >= 0; i--) {
                Rail r = rails[i];
                int level = plan.level[i];
                if (isOn(i) && level > 0) {
                    r.draw += r.load * r.volts / level;
                }
                r.draw += plan.charge[i] * r.rose / 16;
                r.over = r.draw > r.limit;
                int parent = plan.parent[i];
                // A parent is told ahead: its own turn comes behind those of all that hang on it so.
                if (parent >= 0 && parent < i) {
                    rails[parent].draw += r.draw;
                } else {
                    total += r.draw;
                }
            }
        }

        private void tripTheLow() {
            for (int i = 0; i < plan.rails; i++) {
                Rail r = rails[i];
                r.lowTicks = r.state == UP && !isGood(i) ? r.lowTicks + 1 : 0;
                if (r.lowTicks >= plan.setting[FILTER] && !row.holds(i)) {
                    trip(i);
                }
            }
        }

        private void tripTheLatest() {
            int latest = latestToGo(plan.allRails());
            if (latest >= 0) {
                trip(latest);
            }
        }

        private void letFirstFall() {
            int first = row.at(0);
            if (first >= 0) {
                row.drop(first);
                rails[first].state = FALLS;
                write(first, LOG_FALLS);
            }
        }
    }

    /** Rails that hang on one another in a ring. */
    private static final class Rings {
        static int within(Plan plan) {
            int found = 0;
            for (int i = 0; i < plan.rails; i++) {
                found |= plan.above[i] & (1 << i);
            }
            return found;
        }

        static int withinOrAbove(Plan plan) {
            int inRings = within(plan);
            int found = inRings;
            for (int i = 0; i < plan.rails; i++) {
                if ((plan.above[i] & inRings) != 0) {
                    found |= 1 << i;
                }
            }
            return found;
        }

        private static int lowest(int set) {
            int i = 0;
            while (i < MOST_RAILS && ((set >> i) & 1) == 0) {
                i++;
            }
            return i;
        }

        /** The rail at a place of the first ring. */
        static int railAt(Plan plan, int place) {
            int inRings = within(plan);
            if (inRings == 0) {
                return OTHER;
            }
            int first = lowest(inRings);
            int left = linksBack(plan, first);
            int i = first;
            for (int k = 0; k < place && k < MOST_RAILS; k++) {
                left--;
                int next = plan.direct[i] & reaching(plan, first, left);
                // Behind the last rail the first one comes again: there the ring has ended.
                if (left <= 0 || next == 0) {
                    return OTHER;
                }
                i = lowest(next);
            }
            return i;
        }

        /** How many links the shortest ring through a rail has. */
        private static int linksBack(Plan plan, int first) {
            for (int links = 1; links <= plan.rails; links++) {
                if ((plan.direct[first] & reaching(plan, first, links - 1)) != 0) {
                    return links;
                }
            }
            return 0;
        }

        /** The rails that hang on one over at most so many links, itself with them. */
        private static int reaching(Plan plan, int goal, int links) {
            int found = 1 << goal;
            for (int k = 0; k < links && k < MOST_RAILS; k++) {
                int more = found;
                for (int i = 0; i < plan.rails; i++) {
                    if ((plan.direct[i] & found) != 0) {
                        more |= 1 << i;
                    }
                }
                found = more;
            }
            return found;
        }
    }

    /** Orders in which rails come one behind another. */
    private static final class Orders {
        /**
         * The least heat of those that are left, if all others came ahead of them; -2: they can't all come.
         * The last one pays for all loads whichever it is: so the one with the least surge goes there.
         */
        static int leastHeat(Board board, int set) {
            Plan plan = board.plan;
            int left = set;
            int sum = allLoads(board);
            int heat = 0;
            for (int k = 0; k < MOST_RAILS && left != 0; k++) {
                int last = leastSurge(plan, left & ~plan.directOfAll(left));
                if (last < 0) {
                    return OTHER;
                }
                heat = Math.max(heat, sum + plan.surge(last));
                sum -= board.rails[last].load;
                left &= ~(1 << last);
            }
            return heat;
        }

        /** The rail at a place of the best order. */
        static int railAt(Board board, int place) {
            int left = board.plan.allRails();
            int heat = leastHeat(board, left);
            int found = OTHER;
            for (int k = 0; k <= place && k < MOST_RAILS && heat >= 0; k++) {
                found = firstThatFits(board, left, heat);
                if (found < 0) {
                    return OTHER;
                }
                left &= ~(1 << found);
            }
            return found;
        }

        /** As all that are left fit within the heat somehow, each free one fits here: only the others are in question. */
        private static int firstThatFits(Board board, int left, int heat) {
            Plan plan = board.plan;
            for (int i = 0; i < plan.rails; i++) {
                boolean free = ((left >> i) & 1) != 0 && (plan.direct[i] & left) == 0;
                if (free && leastHeat(board, left & ~(1 << i)) <= heat) {
                    return i;
                }
            }
            return OTHER;
        }

        private static int leastSurge(Plan plan, int set) {
            int least = OTHER;
            for (int i = 0; i < plan.rails; i++) {
                if (((set >> i) & 1) != 0 && (least < 0 || plan.surge(i) < plan.surge(least))) {
                    least = i;
                }
            }
            return least;
        }

        private static int allLoads(Board board) {
            int sum = 0;
            for (int i = 0; i < board.plan.rails; i++) {
                sum += board.rails[i].load;
            }
            return sum;
        }
    }
}
