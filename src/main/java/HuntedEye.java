import java.util.NoSuchElementException;

/** A receiver that undoes what a line did to what was sent. */
public final class HuntedEye {
    public static final int NONE = -1;
    public static final int HIDDEN = -1000000000;

    private static final int LAST_T = 9999;
    private static final int MOST_BYTES = 240;
    private static final int MOST_NUMBERS = 16;
    private static final int MOST_SCRIPTS = 4;
    private static final int MOST_STEPS = 12;
    private static final int MOST_ACTS = 40;
    private static final int MOST_SENT = 60;
    private static final int LOG_LENGTH = 60;
    private static final int MOST_TAPS = 6;
    private static final int MOST_FORE = 3;
    private static final int MOST_BACK = 3;
    private static final int TAP_LIMIT = 255;
    private static final int LEVEL_LIMIT = 99;
    private static final int MOST_NOISE = 4;
    private static final int MOST_TRAIN = 99;
    private static final int MOST_GEAR = 9;
    private static final int PHASES = 4;
    private static final int ROWS = 64;
    private static final int ROW_BITS = 6;
    private static final int SCALE = 64;
    private static final int IN_A_ROW = 4;

    // The numbers of a LINE's WORDS are those that rule is asked by.
    private static final int PULSE = 0;
    private static final int FORE = 1;
    private static final int BACK = 2;
    private static final int DELAY = 3;
    private static final int LEVEL = 4;
    private static final int GEAR = 5;
    private static final int FLOOR = 6;
    private static final int NOISE = 7;
    private static final int TRAIN = 8;
    private static final int SEED = 9;
    private static final int TRACK = 10;
    private static final int LOCK = 11;
    private static final int WORD = 12;
    private static final int CLAUSES = 13;

    // The numbers of STEPS are those that step answers.
    private static final int DO_SEND = 0;
    private static final int DO_PHASE = 1;
    private static final int DO_HOLD = 2;
    private static final int DO_TAP = 3;
    private static final int DO_DROP = 4;
    private static final int DO_NOISE = 5;
    private static final int DO_TRAIN = 6;
    private static final int DO_SEEK = 7;

    private static final int NO_SUCH = 0;
    private static final int OUT_OF_BOUNDS = 1;
    private static final int IS_SO = 2;
    private static final int TOO_LATE = 3;

    private static final int MARK_BIT = 1;
    private static final int MARK_DECISION = 2;
    private static final int MARK_WRONG = 4;
    private static final int MARK_DARK = 8;
    private static final int MARK_LEARNT = 16;
    private static final int MARK_TRAINED = 32;

    private final Reader reader = new Reader();
    private final Line line = new Line();
    private final Script[] scripts = new Script[MOST_SCRIPTS];
    private final State state = new State();
    private final State[] past = new State[MOST_ACTS];
    private final Log journal = new Log(LOG_LENGTH + MOST_ACTS * MOST_SENT);
    private final State imageState = new State();
    private final Log imageJournal = new Log(LOG_LENGTH);
    private final Eye watcher = new Eye();
    private final Burst spread = new Burst();
    private final Ahead ahead = new Ahead();
    private final int[] refused = new int[4];
    private boolean hasLine;
    private boolean hasImage;
    private int scriptCount;
    private int pastStart;
    private int pastCount;
    private int riskNow = 3;

    public HuntedEye() {
        for (int i = 0; i < MOST_SCRIPTS; i++) {
            scripts[i] = new Script();
        }
        for (int i = 0; i < MOST_ACTS; i++) {
            past[i] = new State();
        }
    }

    // ---- texts

    public int feed(int a, int b, int c, int d, int e) {
        return reader.join(a, b, c, d, e);
    }

    public boolean end(int n) {
        return reader.cut(n);
    }

    public int fault(int sort) {
        if (sort == 0) {
            return reader.faultOfLine();
        }
        return sort == 1 ? reader.faultOfScript() : -2;
    }

    public int text(int sort) {
        if (sort == 0) {
            return takeLine();
        }
        return sort == 1 ? takeScript() : NONE;
    }

    public int rule(int what) {
        return hasLine && within(what, 0, CLAUSES - 1) ? line.ruleOf(what) : NONE;
    }

    public int told(int which, int i) {
        if (!hasLine) {
            return HIDDEN;
        }
        if (which == 0) {
            return within(i, 0, line.pulseLength() - 1) ? line.pulseAt(i) : HIDDEN;
        }
        if (which == 1) {
            return within(i, 0, line.wordLength() - 1) ? line.wordAt(i) : HIDDEN;
        }
        return HIDDEN;
    }

    // ---- as it is now

    public int tap(int tap, int what) throws NoSuchElementException {
        if (!isTap(tap) || !within(what, 0, 1)) {
            throw new NoSuchElementException();
        }
        return what == 0 ? state.taps[tap] : state.votes[tap];
    }

    public int now(int what) {
        return hasLine ? state.fact(what) : HIDDEN;
    }

    public int ago(int what, int i) {
        return hasLine ? state.earlier(what, i) : HIDDEN;
    }

    public int status(int what) {
        return within(what, 0, refused.length - 1) ? refused[what] : NONE;
    }

    public int log(int i, int what) {
        if (i < 0 || i >= logLength()) {
            return HIDDEN;
        }
        return journal.entry(state.t - 1 - i, what);
    }

    public int count(int what) {
        switch (what) {
            case 0: return tapCount();
            case 1: return scriptCount;
            case 2: return reader.length;
            case 3: return state.t;
            case 4: return riskNow;
            case 5: return logLength();
            case 6: return pastCount;
            default: return HIDDEN;
        }
    }

    // ---- acts

    public boolean risk(int v) {
        if (!within(v, 0, 9) || v == riskNow) {
            return false;
        }
        riskNow = v;
        return true;
    }

    public int send(int n) {
        return isRefused(DO_SEND, n, 0) ? NONE : act(DO_SEND, n, 0);
    }

    public int phase(int v) {
        return isRefused(DO_PHASE, v, 0) ? NONE : act(DO_PHASE, v, 0);
    }

    public int hold(int v) {
        return isRefused(DO_HOLD, v, 0) ? NONE : act(DO_HOLD, v, 0);
    }

    public int set(int tap, int v) {
        return isRefused(DO_TAP, tap, v) ? HIDDEN : act(DO_TAP, tap, v);
    }

    public int drop() {
        return isRefused(DO_DROP, 0, 0) ? NONE : act(DO_DROP, 0, 0);
    }

    public int change(int what, int v) {
        if (hasLine && !within(what, 0, 1)) {
            refused[OUT_OF_BOUNDS]++;
            return NONE;
        }
        int kind = what == 0 ? DO_NOISE : DO_TRAIN;
        return isRefused(kind, v, 0) ? NONE : act(kind, v, 0);
    }

    public int dice(long v) {
        if (!hasLine) {
            refused[NO_SUCH]++;
            return NONE;
        }
        remember();
        state.x = v;
        return state.t;
    }

    public int seek() {
        return isRefused(DO_SEEK, 0, 0) ? NONE : act(DO_SEEK, 0, 0);
    }

    public int years(int n, long seed) {
        if (!hasLine || !within(n, 1, 40)) {
            return NONE;
        }
        long y = seed;
        for (int i = 0; i < n; i++) {
            y = liveYear(y);
        }
        return state.t;
    }

    public int undo() {
        if (pastCount <= 0) {
            return NONE;
        }
        pastCount--;
        state.copy(past[pastPlace(pastCount)]);
        return pastCount;
    }

    public int image() {
        if (!hasLine) {
            return NONE;
        }
        imageState.copy(state);
        imageJournal.copyLatest(journal, state.t);
        hasImage = true;
        return state.t;
    }

    public int back() {
        if (!hasImage) {
            return NONE;
        }
        state.copy(imageState);
        journal.copyLatest(imageJournal, state.t);
        pastCount = 0;
        return state.t;
    }

    // ---- scripts

    public int step(int script, int i, int what) {
        return isScript(script) ? scripts[script].part(i, what) : HIDDEN;
    }

    public int run(int script, int what) {
        if (!hasLine || !isScript(script) || !within(what, 0, 1)) {
            return HIDDEN;
        }
        Script steps = scripts[script];
        State s = ahead.copyOf(state);
        int wrongAtFirst = s.tally.wrong;
        int done = 0;
        for (int i = 0; i < steps.count && canStep(s, steps, i); i++) {
            tryStep(s, steps, i);
            done++;
        }
        if (what == 1) {
            return s.tally.wrong - wrongAtFirst;
        }
        return done == steps.count ? NONE : done;
    }

    public int perform(int script) {
        if (!hasLine || !isScript(script)) {
            return NONE;
        }
        Script steps = scripts[script];
        int done = 0;
        for (int i = 0; i < steps.count && canStep(state, steps, i); i++) {
            act(steps.kinds[i], steps.firsts[i], steps.seconds[i]);
            done++;
        }
        return done;
    }

    // ---- rows

    public int eye(int phase, int v) {
        if (!isPhase(phase) || !within(v, -99, 99)) {
            return NONE;
        }
        watcher.look(line, state, phase);
        return watcher.right(line, SCALE * v);
    }

    public int opening(int phase, int what) {
        if (!isPhase(phase)) {
            return HIDDEN;
        }
        watcher.look(line, state, phase);
        int high = watcher.high(line);
        int low = watcher.low(line);
        switch (what) {
            case 0: return high;
            case 1: return low;
            case 2: return high - low;
            case 3: return Math.floorDiv(high + low, 2);
            default: return HIDDEN;
        }
    }

    public int weigh(int row, int phase, int what) {
        if (!isPhase(phase) || !within(row, 0, ROWS - 1) || !within(what, 0, 1)) {
            return HIDDEN;
        }
        return what == 0 ? watcher.rowZ(line, state, row, phase) : truthOf(line, row);
    }

    public int map(int what) {
        if (!hasLine || !within(what, 0, 2)) {
            return NONE;
        }
        int all = 0;
        int best = 0;
        int most = 0;
        for (int phase = 0; phase < PHASES; phase++) {
            int open = watcher.openLevels(line, state, phase);
            all += open;
            if (open > most) {
                most = open;
                best = phase;
            }
        }
        return what == 0 ? all : what == 1 ? best : most;
    }

    public int bears(int phase) {
        return isPhase(phase) ? watcher.bearable(line, state, phase) : HIDDEN;
    }

    public int burst(int row, int what) {
        if (!hasLine || !within(row, 0, ROWS - 1) || !within(what, 0, 1)) {
            return NONE;
        }
        spread.explore(line, state);
        return what == 0 ? spread.followers(row) : spread.errors(row);
    }

    public int bursts() {
        if (!hasLine) {
            return NONE;
        }
        spread.explore(line, state);
        return spread.longestRow();
    }

    public int unrolled(int row) {
        if (!hasLine || state.t == 0 || !within(row, 0, (1 << line.backTaps()) - 1)) {
            return HIDDEN;
        }
        return state.tally.zWith(row, line.backTaps());
    }

    public int improved(int tap, int what) {
        if (!isTap(tap) || !within(what, 0, 1)) {
            return HIDDEN;
        }
        watcher.improve(line, state, tap);
        return what == 0 ? watcher.bestValue : watcher.bestHeight;
    }

    // ---- what comes

    public int settled(int b) {
        return hasLine && within(b, 0, 20) ? ahead.settledNow(line, state, b) : NONE;
    }

    public int quickest(int b) {
        return hasLine && within(b, 0, 20) ? ahead.quickestGear(line, state, b) : NONE;
    }

    public int coming(int n, int what) {
        if (!hasLine || !within(n, 0, 60) || !within(what, 0, 12)) {
            return HIDDEN;
        }
        if (what < MOST_TAPS && !isTap(what)) {
            return HIDDEN;
        }
        State s = ahead.copyOf(state);
        int wrong = s.wrongIn(line, n);
        if (what < MOST_TAPS) {
            return s.taps[what];
        }
        switch (what) {
            case 6: return wrong;
            case 7: return sizeOf(s.tally.z);
            case 8: return s.t;
            case 9: return s.tally.runs;
            case 10: return s.tally.dark ? 1 : 0;
            case 11: return s.phase;
            default: return s.level;
        }
    }

    public int gain(int n) {
        if (!hasLine || !within(n, 1, 60)) {
            return HIDDEN;
        }
        return ahead.wrongIfHeld(line, state, n, true) - ahead.wrongIfHeld(line, state, n, false);
    }

    public int worst(int n, int what) {
        if (!hasLine || !within(n, 1, 6) || !within(what, 0, 1)) {
            return NONE;
        }
        int worst = 0;
        int most = NONE;
        for (int k = 0; k < n; k++) {
            int wrong = ahead.wrongIfDropped(line, state, k);
            if (wrong > most) {
                most = wrong;
                worst = k;
            }
        }
        return what == 0 ? worst : most;
    }

    public int odds(int n) {
        return hasLine && within(n, 1, 4) ? ahead.rightRows(line, state, n) : NONE;
    }

    // ---- what the calls above share

    private int takeLine() {
        if (reader.faultOfLine() != NONE) {
            return NONE;
        }
        line.copy(reader.line);
        reader.cut(0);
        state.begin(line);
        hasLine = true;
        hasImage = false;
        pastCount = 0;
        return line.allTaps();
    }

    private int takeScript() {
        if (!within(scriptCount, 0, MOST_SCRIPTS - 1) || reader.faultOfScript() != NONE) {
            return NONE;
        }
        scripts[scriptCount].copy(reader.script);
        reader.cut(0);
        scriptCount++;
        return scriptCount - 1;
    }

    private int tapCount() {
        return hasLine ? line.allTaps() : 0;
    }

    private int logLength() {
        return Math.min(state.t, LOG_LENGTH);
    }

    private boolean isTap(int tap) {
        return within(tap, 0, Math.min(tapCount(), MOST_TAPS) - 1);
    }

    private boolean isScript(int script) {
        return within(script, 0, Math.min(scriptCount, MOST_SCRIPTS) - 1);
    }

    private boolean isPhase(int phase) {
        return hasLine && within(phase, 0, PHASES - 1);
    }

    /** Whether the ACT can't be; then STATUS tells it. */
    private boolean isRefused(int kind, int a, int b) {
        int why = refusal(state, kind, a, b);
        if (within(why, 0, refused.length - 1)) {
            refused[why]++;
        }
        return why != NONE;
    }

    /** Why the ACT can't be in this State, as STATUS numbers it; NONE if it can. */
    private int refusal(State s, int kind, int a, int b) {
        if (!hasLine) {
            return NO_SUCH;
        }
        switch (kind) {
            case DO_SEND:
                if (!within(a, 1, MOST_SENT)) {
                    return OUT_OF_BOUNDS;
                }
                return s.t + a > LAST_T ? TOO_LATE : NONE;
            case DO_PHASE: return refusalToSet(a, 0, PHASES - 1, s.phase);
            case DO_HOLD: return refusalToSet(a, 0, 1, s.held ? 1 : 0);
            case DO_TAP: return isTap(a) ? refusalToSet(b, -TAP_LIMIT, TAP_LIMIT, s.taps[a]) : NO_SUCH;
            case DO_DROP: return s.dropped ? IS_SO : NONE;
            case DO_NOISE: return refusalToSet(a, 0, MOST_NOISE, s.noise);
            case DO_TRAIN: return refusalToSet(a, 0, MOST_TRAIN, s.train);
            case DO_SEEK: return watcher.hunted(line, s) == s.phase ? IS_SO : NONE;
            default: return NO_SUCH;
        }
    }

    private static int refusalToSet(int v, int low, int high, int is) {
        if (!within(v, low, high)) {
            return OUT_OF_BOUNDS;
        }
        return v == is ? IS_SO : NONE;
    }

    private boolean canStep(State s, Script steps, int i) {
        return steps.has(i) && refusal(s, steps.kinds[i], steps.firsts[i], steps.seconds[i]) == NONE;
    }

    /** What a STEP that can be does to a State apart: SYMBOLS are not logged. */
    private void tryStep(State s, Script steps, int i) {
        if (!steps.has(i)) {
            return;
        }
        if (steps.kinds[i] == DO_SEND) {
            s.wrongIn(line, steps.firsts[i]);
        } else {
            carryOut(s, steps.kinds[i], steps.firsts[i], steps.seconds[i]);
        }
    }

    /** An ACT that can be: what its call answers. */
    private int act(int kind, int a, int b) {
        remember();
        if (kind == DO_SEND) {
            return sendLogged(a);
        }
        return carryOut(state, kind, a, b);
    }

    private int sendLogged(int n) {
        int wrong = 0;
        for (int i = 0; i < n; i++) {
            state.pass(line);
            journal.keep(state.t - 1, state.tally);
            if (state.tally.latestIsWrong()) {
                wrong++;
            }
        }
        return wrong;
    }

    /** What an ACT that can be, other than to send, does to a State, and what it answers. */
    private int carryOut(State s, int kind, int a, int b) {
        switch (kind) {
            case DO_PHASE: return s.putPhase(a);
            case DO_HOLD: return s.putHeld(a);
            case DO_TAP: return s.putTap(a, b);
            case DO_NOISE: return s.putNoise(a);
            case DO_TRAIN: return s.putTrain(a);
            case DO_SEEK:
                s.phase = watcher.hunted(line, s);
                return s.phase;
            case DO_DROP:
                s.dropped = true;
                return s.t;
            default: return NONE;
        }
    }

    /** What is now is kept, so that the ACT that follows can be UNDONE. */
    private void remember() {
        past[pastPlace(pastCount)].copy(state);
        if (pastCount < MOST_ACTS) {
            pastCount++;
        } else {
            pastStart = pastPlace(1);
        }
    }

    /** Where the State ahead of ACT i stands, the oldest that can be UNDONE being 0. */
    private int pastPlace(int i) {
        return Math.floorMod(pastStart + i, MOST_ACTS);
    }

    private long liveYear(long seed) {
        remember();
        long y = turned(seed);
        if (drawn(y, 10) < riskNow) {
            y = turned(y);
            y = mishap(y, drawn(y, 4));
        }
        y = turned(y);
        sendLogged(Math.min(drawn(y, 8) + 1, LAST_T - state.t));
        return y;
    }

    private long mishap(long seed, int what) {
        long y = seed;
        if (what == 0) {
            state.dropped = true;
        } else if (what == 1) {
            y = turned(y);
            state.phase = drawn(y, PHASES);
        } else if (what == 2) {
            y = turned(y);
            state.noise = drawn(y, MOST_NOISE + 1);
        } else {
            state.held = !state.held;
        }
        return y;
    }

    // ---- small functions

    private static boolean within(int v, int low, int high) {
        return v >= low && v <= high;
    }

    private static int signOf(int v) {
        return v > 0 ? 1 : v < 0 ? -1 : 0;
    }

    private static int sizeOf(int v) {
        return v < 0 ? -v : v;
    }

    /** What bit k of a row stands for: 1 for 1, -1 for 0. */
    private static int bitSign(int row, int k) {
        return ((row >> k) & 1) == 1 ? 1 : -1;
    }

    /** The TRUTH of a ROW. */
    private static int truthOf(Line line, int row) {
        return bitSign(row, line.delay());
    }

    private static long turned(long y) {
        return y * 6364136223846793005L + 1442695040888963407L;
    }

    /** The draw of j that a number which was just turned gives. */
    private static int drawn(long y, int j) {
        return j > 0 ? (int) ((y >>> 33) % j) : 0;
    }

    /** The newest goes ahead of all others, the oldest is lost. */
    private static void push(int[] row, int newest) {
        for (int i = row.length - 1; i > 0; i--) {
            row[i] = row[i - 1];
        }
        if (row.length > 0) {
            row[0] = newest;
        }
    }

    private static int moved(int value, int by, int low, int high) {
        int there = value + by;
        return there < low ? low : there > high ? high : there;
    }

    /** The WORDS of a LINE, in the order of their numbers. */
    private enum Clause {
        C_PULSE("pulse", MOST_NUMBERS, -60, 60, 0),
        C_FORE("fore", 1, 1, 3, 2),
        C_BACK("back", 1, 0, 3, 2),
        C_DELAY("delay", 1, 0, 2, 0),
        C_LEVEL("level", 1, 1, 99, 40),
        C_GEAR("gear", 1, 1, 9, 1),
        C_FLOOR("floor", 1, 0, 60, 4),
        C_NOISE("noise", 1, 0, 4, 0),
        C_TRAIN("train", 1, 0, 99, 0),
        C_SEED("seed", 1, 1, 127, 1),
        C_TRACK("track", 1, 0, 1, 0),
        C_LOCK("lock", 1, 0, 9, 0),
        C_WORD("word", MOST_NUMBERS, 0, 1, 0);

        private static final Clause[] ALL = values();

        private final String word;
        private final int most;
        private final int low;
        private final int high;
        private final int usual;

        Clause(String word, int most, int low, int high, int usual) {
            this.word = word;
            this.most = most;
            this.low = low;
            this.high = high;
            this.usual = usual;
        }
    }

    /** The WORDS of a SCRIPT, in the order of their numbers. */
    private enum Step {
        S_SEND("send", 1, 1, MOST_SENT),
        S_PHASE("phase", 1, 0, 3),
        S_HOLD("hold", 1, 0, 1),
        S_TAP("tap", 2, 0, 5),
        S_DROP("drop", 0, 0, 0),
        S_NOISE("noise", 1, 0, 4),
        S_TRAIN("train", 1, 0, 99),
        S_SEEK("seek", 0, 0, 0);

        private static final Step[] ALL = values();

        private final String word;
        private final int numbers;
        private final int low;
        private final int high;

        Step(String word, int numbers, int low, int high) {
            this.word = word;
            this.numbers = numbers;
            this.low = low;
            this.high = high;
        }

        // Only a TAP has a second number: what it is set to.
        int lowOf(int i) {
            return i == 0 ? low : -TAP_LIMIT;
        }

        int highOf(int i) {
            return i == 0 ? high : TAP_LIMIT;
        }
    }

    /** A LINE as told. Of pulse and word, ruleOf tells how many numbers they have. */
    private static final class Line {
        private final int[] rules = new int[CLAUSES];
        private final int[] pulse = new int[MOST_NUMBERS];
        private final int[] word = new int[MOST_NUMBERS];

        void reset() {
            for (int i = 0; i < CLAUSES && i < Clause.ALL.length; i++) {
                rules[i] = Clause.ALL[i].usual;
            }
        }

        void put(int clause, int i, int v) {
            if (!within(clause, 0, CLAUSES - 1) || !within(i, 0, MOST_NUMBERS - 1)) {
                return;
            }
            if (clause == PULSE) {
                pulse[i] = v;
                rules[PULSE] = i + 1;
            } else if (clause == WORD) {
                word[i] = v;
                rules[WORD] = i + 1;
            } else {
                rules[clause] = v;
            }
        }

        void copy(Line other) {
            System.arraycopy(other.rules, 0, rules, 0, CLAUSES);
            System.arraycopy(other.pulse, 0, pulse, 0, MOST_NUMBERS);
            System.arraycopy(other.word, 0, word, 0, MOST_NUMBERS);
        }

        int ruleOf(int what) {
            return within(what, 0, CLAUSES - 1) ? rules[what] : NONE;
        }

        int pulseLength() {
            return rules[PULSE];
        }

        /** 0 behind the last one, where the line no longer rings. */
        int pulseAt(int i) {
            return i >= 0 && i < rules[PULSE] && i < MOST_NUMBERS ? pulse[i] : 0;
        }

        int wordLength() {
            return rules[WORD];
        }

        int wordAt(int i) {
            return i >= 0 && i < rules[WORD] && i < MOST_NUMBERS ? word[i] : 0;
        }

        int foreTaps() {
            return rules[FORE];
        }

        int backTaps() {
            return rules[BACK];
        }

        int allTaps() {
            return rules[FORE] + rules[BACK];
        }

        int delay() {
            return rules[DELAY];
        }
    }

    /** The STEPS of a SCRIPT. */
    private static final class Script {
        private final int[] kinds = new int[MOST_STEPS];
        private final int[] firsts = new int[MOST_STEPS];
        private final int[] seconds = new int[MOST_STEPS];
        private int count;

        boolean has(int i) {
            return i >= 0 && i < count && i < MOST_STEPS;
        }

        void open(int kind) {
            if (within(count, 0, MOST_STEPS - 1)) {
                kinds[count] = kind;
                firsts[count] = HIDDEN;
                seconds[count] = HIDDEN;
                count++;
            }
        }

        /** Number i of the STEP that was opened last. */
        void put(int i, int v) {
            if (has(count - 1)) {
                if (i == 0) {
                    firsts[count - 1] = v;
                } else {
                    seconds[count - 1] = v;
                }
            }
        }

        int part(int i, int what) {
            if (!has(i)) {
                return HIDDEN;
            }
            switch (what) {
                case 0: return kinds[i];
                case 1: return firsts[i];
                case 2: return seconds[i];
                default: return HIDDEN;
            }
        }

        void copy(Script other) {
            System.arraycopy(other.kinds, 0, kinds, 0, MOST_STEPS);
            System.arraycopy(other.firsts, 0, firsts, 0, MOST_STEPS);
            System.arraycopy(other.seconds, 0, seconds, 0, MOST_STEPS);
            count = other.count;
        }
    }

    /** The TAPE, and what it tells when it is read as a LINE or as a SCRIPT. */
    private static final class Reader {
        private static final int TOO_MUCH = 100000;

        private final int[] tape = new int[MOST_BYTES];
        private final boolean[] seen = new boolean[CLAUSES];
        private final Line line = new Line();
        private final Script script = new Script();
        private int length;
        private int at;
        private int firstFault;
        private int number;

        int join(int a, int b, int c, int d, int e) {
            int more = bytesIn(a) + bytesIn(b) + bytesIn(c) + bytesIn(d) + bytesIn(e);
            if (length + more > MOST_BYTES) {
                return NONE;
            }
            append(a);
            append(b);
            append(c);
            append(d);
            append(e);
            return length;
        }

        boolean cut(int n) {
            if (!within(n, 0, length)) {
                return false;
            }
            length = n;
            return true;
        }

        private static int bytesIn(int four) {
            int bytes = 0;
            for (int shift = 24; shift >= 0; shift -= 8) {
                if (((four >>> shift) & 255) != 0) {
                    bytes++;
                }
            }
            return bytes;
        }

        private void append(int four) {
            for (int shift = 24; shift >= 0; shift -= 8) {
                int one = (four >>> shift) & 255;
                if (one != 0 && within(length, 0, MOST_BYTES - 1)) {
                    tape[length] = one;
                    length++;
                }
            }
        }

        int faultOfLine() {
            at = 0;
            firstFault = NONE;
            line.reset();
            for (int i = 0; i < CLAUSES; i++) {
                seen[i] = false;
            }
            boolean more = true;
            // One round more than there are WORDS: it finds none that was not there.
            for (int i = 0; i <= CLAUSES && more; i++) {
                more = readClause();
            }
            if (firstFault == NONE && line.pulseLength() == 0) {
                firstFault = length;
            }
            return firstFault;
        }

        int faultOfScript() {
            at = 0;
            firstFault = NONE;
            script.count = 0;
            boolean more = true;
            for (int i = 0; i < MOST_STEPS && more; i++) {
                more = readStep() && passMark(i + 1 < MOST_STEPS);
            }
            return firstFault;
        }

        /** Whether another CLAUSE must follow. */
        private boolean readClause() {
            skipBlanks();
            int clause = clauseHere();
            if (clause < 0 || clause >= Clause.ALL.length || clause >= CLAUSES || seen[clause]) {
                return refuseAt(at);
            }
            seen[clause] = true;
            Clause told = Clause.ALL[clause];
            at += told.word.length();
            boolean more = true;
            for (int i = 0; i < told.most && more; i++) {
                if (!readNumber(told.low, told.high)) {
                    return false;
                }
                line.put(clause, i, number);
                more = i + 1 < told.most && passByte(',');
            }
            return passMark(true);
        }

        /** Whether all of a STEP was there. */
        private boolean readStep() {
            skipBlanks();
            int kind = stepHere();
            if (kind < 0 || kind >= Step.ALL.length) {
                return refuseAt(at);
            }
            Step told = Step.ALL[kind];
            script.open(kind);
            at += told.word.length();
            for (int i = 0; i < told.numbers; i++) {
                if (i > 0 && !passByte(',')) {
                    return refuseAt(at);
                }
                if (!readNumber(told.lowOf(i), told.highOf(i))) {
                    return false;
                }
                script.put(i, number);
            }
            return true;
        }

        /** Whether a ; was passed; what is neither that nor the end is a FAULT, as is a ; that may not be. */
        private boolean passMark(boolean mayBe) {
            if (mayBe && passByte(';')) {
                return true;
            }
            skipBlanks();
            return at < length && refuseAt(at);
        }

        private boolean readNumber(int low, int high) {
            skipBlanks();
            int start = at;
            boolean negative = byteAt(at) == '-';
            int digit = negative ? at + 1 : at;
            if (!isDigit(byteAt(digit))) {
                return refuseAt(start);
            }
            int worth = 0;
            while (digit < length && isDigit(byteAt(digit))) {
                worth = Math.min(worth * 10 + byteAt(digit) - '0', TOO_MUCH);
                digit++;
            }
            number = negative ? -worth : worth;
            if (!within(number, low, high)) {
                return refuseAt(start);
            }
            at = digit;
            return true;
        }

        /** The number of the WORD that stands here. */
        private int clauseHere() {
            int end = endOfLetters();
            for (int i = 0; i < Clause.ALL.length; i++) {
                if (stands(Clause.ALL[i].word, end)) {
                    return i;
                }
            }
            return NONE;
        }

        private int stepHere() {
            int end = endOfLetters();
            for (int i = 0; i < Step.ALL.length; i++) {
                if (stands(Step.ALL[i].word, end)) {
                    return i;
                }
            }
            return NONE;
        }

        private int endOfLetters() {
            int end = at;
            while (end < length && within(byteAt(end), 'a', 'z')) {
                end++;
            }
            return end;
        }

        private boolean stands(String word, int end) {
            if (end - at != word.length()) {
                return false;
            }
            for (int i = 0; i < word.length(); i++) {
                if (byteAt(at + i) != word.charAt(i)) {
                    return false;
                }
            }
            return true;
        }

        private boolean passByte(int one) {
            skipBlanks();
            if (byteAt(at) != one) {
                return false;
            }
            at++;
            return true;
        }

        private void skipBlanks() {
            while (at < length && byteAt(at) == ' ') {
                at++;
            }
        }

        private int byteAt(int i) {
            return i >= 0 && i < length && i < MOST_BYTES ? tape[i] : NONE;
        }

        private static boolean isDigit(int one) {
            return within(one, '0', '9');
        }

        private boolean refuseAt(int where) {
            firstFault = where;
            return false;
        }
    }

    /** What is counted over SYMBOLS, whether the line is dark, and what the latest SYMBOL was. */
    private static final class Tally {
        private int quiet;
        private int loud;
        private boolean dark;
        private int wrong;
        private int learnt;
        private int runs;
        private int longest;
        private int open;
        private int right;
        private int sample;
        private int z;
        private int foreSum;
        private int errorSign;
        private int marks;
        private final int[] backThen = new int[MOST_BACK];

        void copy(Tally other) {
            quiet = other.quiet;
            loud = other.loud;
            dark = other.dark;
            wrong = other.wrong;
            learnt = other.learnt;
            runs = other.runs;
            longest = other.longest;
            open = other.open;
            right = other.right;
            sample = other.sample;
            z = other.z;
            foreSum = other.foreSum;
            errorSign = other.errorSign;
            marks = other.marks;
            System.arraycopy(other.backThen, 0, backThen, 0, MOST_BACK);
        }

        void clear() {
            quiet = 0;
            loud = 0;
            dark = false;
            wrong = 0;
            learnt = 0;
            runs = 0;
            longest = 0;
            open = 0;
            right = 0;
            sample = 0;
            z = 0;
            foreSum = 0;
            errorSign = 0;
            marks = 0;
            for (int j = 0; j < MOST_BACK; j++) {
                backThen[j] = 0;
            }
        }

        void hear(boolean isQuiet) {
            quiet = isQuiet ? Math.min(quiet + 1, IN_A_ROW) : 0;
            loud = isQuiet ? 0 : Math.min(loud + 1, IN_A_ROW);
            if (quiet == IN_A_ROW) {
                dark = true;
            }
            if (loud == IN_A_ROW) {
                dark = false;
            }
        }

        void judge(boolean isWrong, int backTaps) {
            if (isWrong) {
                wrong++;
                open++;
                right = 0;
            } else if (open > 0) {
                open++;
                right++;
                if (right >= Math.max(backTaps, 1)) {
                    closeRun();
                }
            }
        }

        private void closeRun() {
            runs++;
            longest = Math.max(longest, open - right);
            open = 0;
            right = 0;
        }

        boolean latestIsWrong() {
            return (marks & MARK_WRONG) != 0;
        }

        /** Z of the latest SYMBOL, had the bits of row been KEPT ahead of it. */
        int zWith(int row, int backTaps) {
            int sum = foreSum;
            for (int j = 0; j < backTaps && j < MOST_BACK; j++) {
                sum -= SCALE * backThen[j] * bitSign(row, j);
            }
            return sum;
        }
    }

    /** All that a LINE's receiver is at a time: what is UNDONE, and what an IMAGE keeps. */
    private static final class State {
        private final int[] taps = new int[MOST_TAPS];
        private final int[] votes = new int[MOST_TAPS];
        private final int[] sent = new int[ROW_BITS];
        private final int[] kept = new int[MOST_BACK];
        private final int[] samples = new int[MOST_FORE];
        private final Tally tally = new Tally();
        private int t;
        private int phase;
        private int phaseVotes;
        private int level;
        private int levelVotes;
        private int gear;
        private int noise;
        private int train;
        private int register;
        private boolean held;
        private boolean dropped;
        private long x;

        void begin(Line line) {
            for (int i = 0; i < MOST_TAPS; i++) {
                taps[i] = i == 0 ? SCALE : 0;
                votes[i] = 0;
            }
            forget(sent);
            forget(kept);
            forget(samples);
            tally.clear();
            t = 0;
            phase = 0;
            phaseVotes = 0;
            level = line.ruleOf(LEVEL);
            levelVotes = 0;
            gear = line.ruleOf(GEAR);
            noise = line.ruleOf(NOISE);
            train = line.ruleOf(TRAIN);
            register = line.ruleOf(SEED);
            held = false;
            dropped = false;
            x = 0;
        }

        private static void forget(int[] row) {
            for (int i = 0; i < row.length; i++) {
                row[i] = 0;
            }
        }

        void copy(State other) {
            System.arraycopy(other.taps, 0, taps, 0, MOST_TAPS);
            System.arraycopy(other.votes, 0, votes, 0, MOST_TAPS);
            System.arraycopy(other.sent, 0, sent, 0, ROW_BITS);
            System.arraycopy(other.kept, 0, kept, 0, MOST_BACK);
            System.arraycopy(other.samples, 0, samples, 0, MOST_FORE);
            tally.copy(other.tally);
            t = other.t;
            phase = other.phase;
            phaseVotes = other.phaseVotes;
            level = other.level;
            levelVotes = other.levelVotes;
            gear = other.gear;
            noise = other.noise;
            train = other.train;
            register = other.register;
            held = other.held;
            dropped = other.dropped;
            x = other.x;
        }

        int fact(int what) {
            switch (what) {
                case 0: return t;
                case 1: return phase;
                case 2: return held ? 1 : 0;
                case 3: return tally.dark ? 1 : 0;
                case 4: return noise;
                case 5: return train;
                case 6: return register;
                case 7: return dropped ? 1 : 0;
                case 8: return tally.quiet;
                case 9: return tally.loud;
                case 10: return tally.wrong;
                case 11: return tally.learnt;
                case 12: return tally.runs;
                case 13: return tally.longest;
                case 14: return tally.open;
                case 15: return tally.right;
                case 16: return level;
                case 17: return levelVotes;
                case 18: return phaseVotes;
                default: return HIDDEN;
            }
        }

        int earlier(int what, int i) {
            if (what == 0) {
                return within(i, 0, ROW_BITS - 1) ? sent[i] : HIDDEN;
            }
            if (what == 1) {
                return within(i, 0, MOST_BACK - 1) ? kept[i] : HIDDEN;
            }
            return what == 2 && within(i, 0, MOST_FORE - 1) ? samples[i] : HIDDEN;
        }

        int putPhase(int v) {
            int was = phase;
            phase = v;
            return was;
        }

        int putHeld(int v) {
            int was = held ? 1 : 0;
            held = v == 1;
            return was;
        }

        int putTap(int tap, int v) {
            if (!within(tap, 0, MOST_TAPS - 1)) {
                return HIDDEN;
            }
            int was = taps[tap];
            taps[tap] = v;
            votes[tap] = 0;
            return was;
        }

        int putNoise(int v) {
            int was = noise;
            noise = v;
            return was;
        }

        int putTrain(int v) {
            int was = train;
            train = v;
            return was;
        }

        /** Sends n SYMBOLS: how many of them were WRONG. */
        int wrongIn(Line line, int n) {
            int before = tally.wrong;
            for (int i = 0; i < n; i++) {
                pass(line);
            }
            return tally.wrong - before;
        }

        /** One SYMBOL, its noise by the draws. */
        void pass(Line line) {
            sendBit(line);
            receive(line, drawnNoise());
        }

        void sendBit(Line line) {
            push(sent, nextBit(line) == 1 ? 1 : -1);
        }

        private int nextBit(Line line) {
            int bits = line.wordLength();
            if (bits > 0) {
                return line.wordAt(t % bits);
            }
            int bit = register & 1;
            int fresh = (register ^ (register >> 1)) & 1;
            register = (register >> 1) | (fresh << 6);
            return bit;
        }

        private int drawnNoise() {
            if (noise <= 0) {
                return 0;
            }
            x = turned(x);
            return drawn(x, 2 * noise + 1) - noise;
        }

        /** What follows when a bit was SENT and its SAMPLE has this noise. */
        void receive(Line line, int noiseNow) {
            boolean missing = dropped;
            int sample = sampleWith(line, noiseNow);
            int foreSum = foreSum(line, sample);
            int z = foreSum - backSum(line);
            int decision = z >= 0 ? 1 : -1;
            int truth = truthNow(line);
            boolean isWrong = truth != 0 && decision != truth;
            boolean trained = train > 0 && truth != 0;
            int keep = trained ? truth : decision;
            int errorSign = signOf(z - SCALE * level * keep);
            keepForUnrolling(line, foreSum);
            push(samples, sample);
            tally.hear(missing || sizeOf(sample) < line.ruleOf(FLOOR));
            boolean learns = !held && !tally.dark && !missing;
            if (learns) {
                tally.learnt++;
                learn(line, keep, errorSign);
            }
            push(kept, keep);
            tally.judge(isWrong, line.backTaps());
            tally.sample = missing ? HIDDEN : sample;
            tally.z = z;
            tally.errorSign = errorSign;
            tally.marks = (sent[0] == 1 ? MARK_BIT : 0) + (decision == 1 ? MARK_DECISION : 0)
                + (isWrong ? MARK_WRONG : 0) + (tally.dark ? MARK_DARK : 0)
                + (learns ? MARK_LEARNT : 0) + (trained ? MARK_TRAINED : 0);
            train = Math.max(train - 1, 0);
            dropped = false;
            t++;
        }

        /** Whether the SYMBOL whose bit was SENT would be WRONG by this noise; nothing is changed. */
        boolean wouldErr(Line line, int noiseNow) {
            int z = foreSum(line, sampleWith(line, noiseNow)) - backSum(line);
            int truth = truthNow(line);
            return truth != 0 && truth != (z >= 0 ? 1 : -1);
        }

        /** 0: there is none yet. */
        private int truthNow(Line line) {
            int delay = line.delay();
            return within(delay, 0, ROW_BITS - 1) ? sent[delay] : 0;
        }

        private int sampleWith(Line line, int noiseNow) {
            if (dropped) {
                return 0;
            }
            int sum = noiseNow;
            for (int k = 0; k < ROW_BITS; k++) {
                sum += line.pulseAt(PHASES * k + phase) * sent[k];
            }
            return sum;
        }

        /** The FORE TAPS' part of Z, when the earlier SAMPLES still stand at the head of their row. */
        private int foreSum(Line line, int sample) {
            int sum = taps[0] * sample;
            for (int i = 1; i < line.foreTaps() && i < MOST_FORE; i++) {
                sum += taps[i] * samples[i - 1];
            }
            return sum;
        }

        private int backSum(Line line) {
            int sum = 0;
            int fore = line.foreTaps();
            for (int j = 0; j < line.backTaps() && j < MOST_BACK && fore + j < MOST_TAPS; j++) {
                sum += SCALE * taps[fore + j] * kept[j];
            }
            return sum;
        }

        private void keepForUnrolling(Line line, int foreSum) {
            tally.foreSum = foreSum;
            int fore = line.foreTaps();
            for (int j = 0; j < line.backTaps() && j < MOST_BACK && fore + j < MOST_TAPS; j++) {
                tally.backThen[j] = taps[fore + j];
            }
        }

        private void learn(Line line, int keep, int errorSign) {
            int fore = line.foreTaps();
            for (int i = 0; i < fore && i < MOST_FORE; i++) {
                vote(i, -signOf(samples[i]) * errorSign);
            }
            for (int j = 0; j < line.backTaps() && j < MOST_BACK && fore + j < MOST_TAPS; j++) {
                vote(fore + j, kept[j] * errorSign);
            }
            if (line.ruleOf(TRACK) == 1) {
                voteLevel(keep * errorSign);
            }
            int lock = line.ruleOf(LOCK);
            if (lock > 0) {
                votePhase(errorSign * kept[0] - tally.errorSign * keep, lock);
            }
        }

        private void vote(int tap, int by) {
            votes[tap] += by;
            if (sizeOf(votes[tap]) >= gear) {
                taps[tap] = moved(taps[tap], signOf(votes[tap]), -TAP_LIMIT, TAP_LIMIT);
                votes[tap] = 0;
            }
        }

        private void voteLevel(int by) {
            levelVotes += by;
            if (sizeOf(levelVotes) >= gear) {
                level = moved(level, signOf(levelVotes), 1, LEVEL_LIMIT);
                levelVotes = 0;
            }
        }

        private void votePhase(int by, int lock) {
            phaseVotes += by;
            if (sizeOf(phaseVotes) >= lock) {
                phase = moved(phase, signOf(phaseVotes), 0, PHASES - 1);
                phaseVotes = 0;
            }
        }
    }

    /** SYMBOLS by their number T. The LOG shows fewer than are kept: UNDOING needs older ones again. */
    private static final class Log {
        private final int[] samples;
        private final int[] zs;
        private final int[] marks;

        Log(int room) {
            int size = Math.max(room, 1);
            samples = new int[size];
            zs = new int[size];
            marks = new int[size];
        }

        private int placeOf(int t) {
            int size = samples.length;
            return size > 0 ? Math.floorMod(t, size) : 0;
        }

        void keep(int t, Tally tally) {
            int place = placeOf(t);
            samples[place] = tally.sample;
            zs[place] = tally.z;
            marks[place] = tally.marks;
        }

        int entry(int t, int what) {
            int place = placeOf(t);
            switch (what) {
                case 0: return samples[place];
                case 1: return zs[place];
                case 2: return marks[place];
                default: return HIDDEN;
            }
        }

        /** Takes over what the LOG shows when it is T. */
        void copyLatest(Log other, int t) {
            for (int i = Math.max(t - LOG_LENGTH, 0); i < t; i++) {
                int from = other.placeOf(i);
                int to = placeOf(i);
                samples[to] = other.samples[from];
                zs[to] = other.zs[from];
                marks[to] = other.marks[from];
            }
        }
    }

    /** What ROWS give: the EYE, its OPENING, and what is made of it. */
    private static final class Eye {
        private static final int REACH = 31;
        private static final int BEYOND = 1000000000;

        private final int[] zs = new int[ROWS];
        private final int[] shares = new int[ROWS];
        private final int[] heights = new int[PHASES];
        private int bestValue;
        private int bestHeight;

        /** What Z of a ROW grows by, when a TAP is one more. */
        static int share(Line line, int row, int phase, int tap) {
            int fore = line.foreTaps();
            if (tap >= fore) {
                return -SCALE * bitSign(row, line.delay() + tap - fore + 1);
            }
            int sum = 0;
            for (int k = 0; PHASES * k + phase < line.pulseLength() && k < ROW_BITS; k++) {
                sum += line.pulseAt(PHASES * k + phase) * bitSign(row, tap + k);
            }
            return sum;
        }

        int rowZ(Line line, State s, int row, int phase) {
            int z = 0;
            for (int tap = 0; tap < line.allTaps() && tap < MOST_TAPS; tap++) {
                z += s.taps[tap] * share(line, row, phase, tap);
            }
            return z;
        }

        /** Z of all ROWS at a PHASE, for the functions below. */
        void look(Line line, State s, int phase) {
            for (int row = 0; row < ROWS; row++) {
                zs[row] = rowZ(line, s, row, phase);
            }
        }

        int right(Line line, int bar) {
            int sum = 0;
            for (int row = 0; row < ROWS; row++) {
                if (truthOf(line, row) == (zs[row] >= bar ? 1 : -1)) {
                    sum++;
                }
            }
            return sum;
        }

        int high(Line line) {
            int least = BEYOND;
            for (int row = 0; row < ROWS; row++) {
                if (truthOf(line, row) == 1) {
                    least = Math.min(least, zs[row]);
                }
            }
            return least;
        }

        int low(Line line) {
            int greatest = -BEYOND;
            for (int row = 0; row < ROWS; row++) {
                if (truthOf(line, row) == -1) {
                    greatest = Math.max(greatest, zs[row]);
                }
            }
            return greatest;
        }

        private int height(Line line) {
            return high(line) - low(line);
        }

        /** Where a SEEKING ends: the PHASE as it is, if none next to it is better. */
        int hunted(Line line, State s) {
            for (int phase = 0; phase < PHASES; phase++) {
                look(line, s, phase);
                heights[phase] = height(line);
            }
            int at = s.phase;
            for (int i = 0; i < PHASES; i++) {
                at = higherNeighbour(at);
            }
            return at;
        }

        private int higherNeighbour(int at) {
            if (!within(at, 0, PHASES - 1)) {
                return at;
            }
            int best = at;
            if (at > 0 && heights[at - 1] > heights[best]) {
                best = at - 1;
            }
            if (at < PHASES - 1 && heights[at + 1] > heights[best]) {
                best = at + 1;
            }
            return best;
        }

        /** By how many v from - LEVEL to LEVEL all ROWS are right: those above LOW, up to HIGH. */
        int openLevels(Line line, State s, int phase) {
            look(line, s, phase);
            int most = Math.min(s.level, Math.floorDiv(high(line), SCALE));
            int least = Math.max(-s.level, Math.floorDiv(low(line), SCALE) + 1);
            return Math.max(most - least + 1, 0);
        }

        int bearable(Line line, State s, int phase) {
            look(line, s, phase);
            int high = high(line);
            int low = low(line);
            int weight = 0;
            for (int i = 0; i < line.foreTaps() && i < MOST_FORE; i++) {
                weight += sizeOf(s.taps[i]);
            }
            for (int n = 99; n >= 0; n--) {
                if (high - n * weight >= 0 && low + n * weight < 0) {
                    return n;
                }
            }
            return NONE;
        }

        /** Leaves in bestValue and bestHeight what IMPROVED tells of a TAP. */
        void improve(Line line, State s, int tap) {
            if (!within(tap, 0, MOST_TAPS - 1)) {
                return;
            }
            int value = s.taps[tap];
            int first = Math.max(value - REACH, -TAP_LIMIT);
            int last = Math.min(value + REACH, TAP_LIMIT);
            for (int row = 0; row < ROWS; row++) {
                shares[row] = share(line, row, s.phase, tap);
                zs[row] = rowZ(line, s, row, s.phase) + (first - value) * shares[row];
            }
            bestValue = first;
            bestHeight = height(line);
            for (int v = first + 1; v <= last; v++) {
                for (int row = 0; row < ROWS; row++) {
                    zs[row] += shares[row];
                }
                int found = height(line);
                if (found > bestHeight) {
                    bestHeight = found;
                    bestValue = v;
                }
            }
        }
    }

    /** How wrong decisions spread: a place is a ROW and which of the newest DECISIONS are WRONG (bit 0 the newest). */
    private static final class Burst {
        private static final int FLAGS = 8;
        private static final int PLACES = ROWS * FLAGS;
        private static final int UNKNOWN = -1;

        private final int[] foreZ = new int[ROWS];
        private final int[] backZ = new int[FLAGS];
        private final int[] next = new int[PLACES * 2];
        private final int[] follow = new int[PLACES];
        private final int[] wrongs = new int[PLACES];
        private int mask;

        void explore(Line line, State s) {
            mask = ((1 << line.backTaps()) - 1) & (FLAGS - 1);
            weighParts(line, s);
            for (int row = 0; row < ROWS; row++) {
                for (int flags = 0; flags <= mask; flags++) {
                    int place = row * FLAGS + flags;
                    next[place * 2] = placeBehind(line, row, flags, 0);
                    next[place * 2 + 1] = placeBehind(line, row, flags, 1);
                    follow[place] = flags == 0 ? 0 : UNKNOWN;
                    wrongs[place] = 0;
                }
            }
            boolean more = true;
            for (int i = 0; i < PLACES && more; i++) {
                more = spreadBack();
            }
        }

        private void weighParts(Line line, State s) {
            int fore = line.foreTaps();
            for (int row = 0; row < ROWS; row++) {
                foreZ[row] = 0;
                for (int tap = 0; tap < fore && tap < MOST_TAPS; tap++) {
                    foreZ[row] += s.taps[tap] * Eye.share(line, row, s.phase, tap);
                }
            }
            for (int bits = 0; bits < FLAGS; bits++) {
                backZ[bits] = 0;
                for (int j = 0; j < line.backTaps() && fore + j < MOST_TAPS; j++) {
                    backZ[bits] += SCALE * s.taps[fore + j] * bitSign(bits, j);
                }
            }
        }

        private int placeBehind(Line line, int row, int flags, int bit) {
            int newRow = ((row << 1) | bit) & (ROWS - 1);
            // KEPT is the TRUTH where the DECISION was right, and else what the TRUTH is not.
            int keptBits = ((newRow >> (line.delay() + 1)) ^ flags) & mask;
            int decision = foreZ[newRow] - backZ[keptBits] >= 0 ? 1 : -1;
            int wrong = decision == truthOf(line, newRow) ? 0 : 1;
            return newRow * FLAGS + (((flags << 1) | wrong) & mask);
        }

        /** Places behind which all is known become known; what never does has a way without end. */
        private boolean spreadBack() {
            boolean found = false;
            for (int place = 0; place < PLACES; place++) {
                if ((place & (FLAGS - 1)) <= mask && follow[place] == UNKNOWN) {
                    int a = next[place * 2];
                    int b = next[place * 2 + 1];
                    if (isKnown(a) && isKnown(b)) {
                        follow[place] = 1 + Math.max(follow[a], follow[b]);
                        wrongs[place] = Math.max(wrongs[a] + (a & 1), wrongs[b] + (b & 1));
                        found = true;
                    }
                }
            }
            return found;
        }

        private boolean isKnown(int place) {
            return within(place, 0, PLACES - 1) && follow[place] != UNKNOWN;
        }

        private int startOf(int row) {
            return (row & (ROWS - 1)) * FLAGS + (1 & mask);
        }

        int followers(int row) {
            int found = follow[startOf(row)];
            return found == UNKNOWN ? HIDDEN : found;
        }

        int errors(int row) {
            int start = startOf(row);
            return follow[start] == UNKNOWN ? HIDDEN : 1 + wrongs[start];
        }

        int longestRow() {
            int best = 0;
            for (int row = 0; row < ROWS; row++) {
                int found = followers(row);
                if (found == HIDDEN) {
                    return row;
                }
                if (found > followers(best)) {
                    best = row;
                }
            }
            return best;
        }
    }

    /** What would come, tried on copies of the State. */
    private static final class Ahead {
        private static final int LATEST = 200;
        private static final int WINDOW = 32;
        private static final int WORST_OF = 40;
        private static final int MOST_ODDS = 4;

        private final State[] copies = new State[MOST_ODDS];
        private final int[] path = new int[(LATEST + WINDOW + 1) * MOST_TAPS];

        Ahead() {
            for (int i = 0; i < MOST_ODDS; i++) {
                copies[i] = new State();
            }
        }

        State copyOf(State s) {
            copies[0].copy(s);
            return copies[0];
        }

        int wrongIfHeld(Line line, State from, int n, boolean held) {
            State s = copyOf(from);
            s.held = held;
            return s.wrongIn(line, n);
        }

        int wrongIfDropped(Line line, State from, int k) {
            State s = copyOf(from);
            int wrong = s.wrongIn(line, k);
            s.dropped = true;
            return wrong + s.wrongIn(line, WORST_OF - k);
        }

        int settledNow(Line line, State from, int b) {
            return settledIn(line, from, b, from.gear, LATEST);
        }

        int quickestGear(Line line, State from, int b) {
            int best = NONE;
            int last = LATEST;
            for (int gear = 1; gear <= MOST_GEAR; gear++) {
                int n = settledIn(line, from, b, gear, last);
                if (n != NONE) {
                    best = gear;
                    // A later gear is better only if it is sooner.
                    last = n - 1;
                }
            }
            return best;
        }

        private int settledIn(Line line, State from, int b, int gear, int last) {
            State s = copyOf(from);
            s.gear = gear;
            keepTaps(s, 0);
            int known = 0;
            for (int n = 0; n <= last && n <= LATEST; n++) {
                while (known < n + WINDOW) {
                    known++;
                    s.pass(line);
                    keepTaps(s, known);
                }
                if (staysWithin(n, b)) {
                    return n;
                }
            }
            return NONE;
        }

        private void keepTaps(State s, int n) {
            if (within(n, 0, LATEST + WINDOW)) {
                System.arraycopy(s.taps, 0, path, n * MOST_TAPS, MOST_TAPS);
            }
        }

        private boolean staysWithin(int n, int b) {
            for (int i = (n + 1) * MOST_TAPS; i < (n + WINDOW + 1) * MOST_TAPS; i++) {
                if (sizeOf(path[i] - path[n * MOST_TAPS + i % MOST_TAPS]) > b) {
                    return false;
                }
            }
            return true;
        }

        int rightRows(Line line, State from, int n) {
            copyOf(from);
            return rightBehind(line, 0, n);
        }

        /** Of the rows of noise behind those that led to copy number depth: by how many none is WRONG. */
        private int rightBehind(Line line, int depth, int n) {
            if (!within(depth, 0, MOST_ODDS - 1)) {
                return 0;
            }
            State s = copies[depth];
            s.sendBit(line);
            int sum = 0;
            for (int v = -s.noise; v <= s.noise; v++) {
                if (!s.wouldErr(line, v)) {
                    // What the last SYMBOL changes is asked by nobody.
                    sum += depth + 1 >= n ? 1 : rightIfHeard(line, depth, n, v);
                }
            }
            return sum;
        }

        private int rightIfHeard(Line line, int depth, int n, int v) {
            if (!within(depth, 0, MOST_ODDS - 2)) {
                return 0;
            }
            State s = copies[depth + 1];
            s.copy(copies[depth]);
            s.receive(line, v);
            return rightBehind(line, depth + 1, n);
        }
    }
}
