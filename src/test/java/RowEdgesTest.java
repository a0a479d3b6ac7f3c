/** The boundary cases of promises 27 to 35: what ROWS give, how wrong decisions spread, what the latest SYMBOL would have been. */
public final class RowEdgesTest {
    private static final int HIDDEN = HuntedEye.HIDDEN;
    private static final int NONE = HuntedEye.NONE;
    private static final int[] FAR = {Integer.MIN_VALUE, Integer.MAX_VALUE};
    /** Behind a WRONG one Z is 64 times (10 s1 + (6 + BACK TAP) s2); the TRUTH is s1. */
    private static final String SPREADING = "pulse 0,0,0,0,10,0,0,0,6;fore 1;back 1;delay 1";

    public static void main(String[] args) {
        eye();
        eyeRefused();
        opening();
        weigh();
        weighTheSixth();
        map();
        mapOfLevels();
        bears();
        bearsAtEachPhase();
        burst();
        burstOfBackTaps();
        burstOfAllWrong();
        burstByTheWorstWay();
        burstWithoutEnd();
        bursts();
        burstsOfManyRows();
        unrolled();
        unrolledThen();
        improved();
        improvedTies();
        Check.finish();
    }

    /** A LINE with one TAP whose Z is h for SENT 1, - h for -1. */
    private static HuntedEye high(int h) {
        int pulse = h % 60 == 0 ? 60 : 1;
        HuntedEye x = Check.line("pulse " + pulse + ";fore 1;back 0");
        x.set(0, h / pulse);
        return x;
    }

    private static void eye() {
        Check.holds(27, "how many are right by 1 for Z of 64 v and more, else -1");
        HuntedEye x = high(1280 / 20 * 3);
        // Z is 192 or -192: 64 times 3 and -3
        Check.due("64 v is HIGH", x.eye(0, 3), 64);
        Check.due("64 v is above HIGH", x.eye(0, 4), 32);
        Check.due("64 v is above LOW", x.eye(0, -2), 64);
        Check.due("64 v is LOW", x.eye(0, -3), 32);
        x.set(0, 191);
        Check.due("64 v is above HIGH by one", x.eye(0, 3), 32);
        Check.due("64 v is below LOW by one", x.eye(0, -3), 32);
        x.set(0, 193);
        Check.due("64 v is above LOW by one", x.eye(0, -3), 64);
        x.set(0, 0);
        Check.due("Z of 0 is 1", x.eye(0, 0), 32);
        x.set(0, -1);
        Check.due("none is right", x.eye(0, 0), 0);
        Check.holds(27, "EYE of a PHASE and a v (-99 .. 99)");
        HuntedEye far = high(60 * 106);
        Check.due("the greatest v", far.eye(0, 99), 64);
        Check.due("the least v", far.eye(0, -99), 64);
        far.set(0, 105);
        Check.due("the greatest v", far.eye(0, 99), 32);
        Check.due("the least v", far.eye(0, -99), 32);
    }

    private static void eyeRefused() {
        Check.holds(27, "NONE: no LINE, no such PHASE, v out of bounds.");
        Check.due("no LINE", new HuntedEye().eye(0, 0), NONE);
        HuntedEye x = Check.line("pulse 20,20,20,20;fore 1;back 0");
        Check.due("PHASE 0", x.eye(0, 0), 64);
        Check.due("PHASE 3", x.eye(3, 0), 64);
        for (int phase : new int[] {-1, 4, Integer.MIN_VALUE, Integer.MAX_VALUE}) Check.due("no such PHASE", x.eye(phase, 0), NONE);
        for (int v : new int[] {-100, 100, Integer.MIN_VALUE, Integer.MAX_VALUE}) Check.due("v out of bounds", x.eye(0, v), NONE);
    }

    private static void opening() {
        Check.holds(28, "the HIGH: the least Z of ROWS with TRUTH 1, the LOW: the greatest of those with -1; HEIGHT: HIGH less LOW");
        HuntedEye x = Check.line("pulse 20,20,20,20,7,0,0,-7;fore 1;back 0");
        Check.due("HIGH", x.opening(0, 0), 64 * 13);
        Check.due("LOW", x.opening(0, 1), -64 * 13);
        Check.due("HEIGHT", x.opening(0, 2), 2 * 64 * 13);
        Check.due("a pulse below 0 closes it as far", x.opening(3, 2), 2 * 64 * 13);
        x.set(0, -64);
        Check.due("a HIGH below 0", x.opening(1, 0), -64 * 20);
        Check.due("a HEIGHT below 0", x.opening(1, 2), -2 * 64 * 20);
        // all six bits count, those behind the first against it: the first and the last ROW are HIGH and LOW
        HuntedEye six = Check.line("pulse 30,0,0,0,-1,0,0,0,-1,0,0,0,-1;fore 3;back 0");
        six.set(1, 1);
        six.set(2, 1);
        Check.due("HIGH of ROW 63", six.opening(0, 0), 1920 - 34 - 35 - 66 - 2 - 1);
        Check.due("LOW of ROW 0", six.opening(0, 1), -1920 + 34 + 35 + 66 + 2 + 1);
        HuntedEye with = Check.line("pulse 30,0,0,0,1,0,0,0,1,0,0,0,1;fore 3;back 0");
        with.set(1, -1);
        with.set(2, -1);
        // SENT 1 and 2 SYMBOLS ago weigh 64 - 30 and 64 - 31, 3 to 5 ago 62, -2, -1
        Check.due("HIGH of a low ROW", with.opening(0, 0), 1920 - 34 - 33 - 62 - 2 - 1);
        Check.due("Z of ROW 49", with.weigh(49, 0, 0), 1920 - 34 - 33 - 62 - 2 - 1);
        HuntedEye four = Check.line("pulse 30,0,0,0,1,0,0,0,1,0,0,0,1;fore 1;back 0");
        Check.due("HIGH of ROW 1", four.opening(0, 0), 64 * 27);
        Check.due("LOW of ROW 14", four.opening(0, 1), -64 * 27);
        // all six bits count, those behind the first with it: ROW 1 alone is HIGH, ROW 62 alone LOW
        HuntedEye one = Check.line("pulse 30,0,0,0,1,0,0,0,1,0,0,0,1;fore 3;back 0");
        one.set(1, 1);
        one.set(2, 1);
        Check.due("Z of ROW 1", one.weigh(1, 0, 0), 1920 - 94 - 95 - 66 - 2 - 1);
        Check.due("HIGH of ROW 1 alone", one.opening(0, 0), 1920 - 94 - 95 - 66 - 2 - 1);
        Check.due("LOW of ROW 62 alone", one.opening(0, 1), -1920 + 94 + 95 + 66 + 2 + 1);
        Check.holds(28, "the MIDDLE: half of HIGH and LOW together, rounded down");
        Check.due("the MIDDLE", x.opening(0, 3), 0);
        x.set(0, 63);
        Check.due("the MIDDLE of odd ones", x.opening(0, 3), 0);
        Check.holds(28, "HIDDEN: no LINE, no such PHASE, what.");
        for (int what = 0; what < 4; what++) Check.due("no LINE", new HuntedEye().opening(0, what), HIDDEN);
        for (int phase : new int[] {-1, 4, Integer.MIN_VALUE, Integer.MAX_VALUE}) Check.due("no such PHASE", x.opening(phase, 0), HIDDEN);
        for (int what : new int[] {-1, 4, Integer.MIN_VALUE, Integer.MAX_VALUE}) Check.due("no such what", x.opening(0, what), HIDDEN);
    }

    private static void weigh() {
        Check.holds(29, "HIDDEN: no LINE, no such ones.");
        Check.due("no LINE", new HuntedEye().weigh(0, 0, 0), HIDDEN);
        Check.due("no LINE", new HuntedEye().weigh(0, 0, 1), HIDDEN);
        HuntedEye x = Check.line("pulse 20,20,20,20;fore 1;back 0");
        for (int row : new int[] {-1, 64, Integer.MIN_VALUE, Integer.MAX_VALUE}) Check.due("no such ROW", x.weigh(row, 0, 0), HIDDEN);
        for (int phase : new int[] {-1, 4, Integer.MIN_VALUE, Integer.MAX_VALUE}) Check.due("no such PHASE", x.weigh(0, phase, 1), HIDDEN);
        for (int what : new int[] {-1, 2, Integer.MIN_VALUE, Integer.MAX_VALUE}) Check.due("no such what", x.weigh(0, 0, what), HIDDEN);
        Check.holds(29, "Z of a ROW (0 .. 63; 0), its TRUTH (1), at a PHASE.");
        Check.due("the least ROW", x.weigh(0, 3, 0), -1280);
        Check.due("its TRUTH", x.weigh(0, 3, 1), -1);
        Check.due("the greatest ROW", x.weigh(63, 3, 0), 1280);
        Check.due("its TRUTH", x.weigh(63, 3, 1), 1);
        Check.holds(29, "without noise and with each KEPT the TRUTH then");
        HuntedEye y = Check.line("pulse 20;fore 1;back 1;noise 4;train 5;word 1");
        y.set(1, 7);
        y.send(3);
        y.drop();
        int tap = Check.tap(y, 0, 0);
        int back = Check.tap(y, 1, 0);
        Check.due("as if 1 1 were SENT", y.weigh(3, 0, 0), 20 * tap - 64 * back);
        Check.due("as if -1 1 were SENT", y.weigh(1, 0, 0), 20 * tap + 64 * back);
    }

    private static void weighTheSixth() {
        Check.holds(29, "there is a Z and a TRUTH (none is asked for beyond the sixth)");
        // FORE TAP 2 by number 12 of pulse: SENT 5 SYMBOLS ago; BACK TAP 3 by delay 2: the same one
        HuntedEye x = Check.line("pulse 0,0,0,0,0,0,0,0,0,0,0,0,5;fore 3;back 3;delay 2");
        x.set(0, 0);
        x.set(2, 3);
        Check.due("the sixth is 1", x.weigh(32, 0, 0), 15);
        Check.due("the sixth is -1", x.weigh(31, 0, 0), -15);
        x.set(5, 1);
        Check.due("KEPT is the sixth, too", x.weigh(32, 0, 0), 15 - 64);
        Check.due("KEPT is the sixth, too", x.weigh(31, 0, 0), -15 + 64);
        for (int delay = 0; delay <= 2; delay++) {
            HuntedEye late = Check.line("pulse 20;delay " + delay);
            for (int row = 0; row < 64; row++) Check.due("the TRUTH by delay " + delay, late.weigh(row, 0, 1), (row >> delay & 1) == 1 ? 1 : -1);
        }
    }

    private static void map() {
        Check.holds(30, "NONE: no LINE, no such what.");
        for (int what = 0; what < 3; what++) Check.due("no LINE", new HuntedEye().map(what), NONE);
        HuntedEye x = Check.line("pulse 0,30,30,0;fore 1;back 0;level 10");
        for (int what : new int[] {-1, 3, Integer.MIN_VALUE, Integer.MAX_VALUE}) Check.due("no such what", x.map(what), NONE);
        Check.holds(30, "the PHASE with most (of several the lowest); by how many it is that");
        Check.due("how many", x.map(0), 42);
        Check.due("the lower of two", x.map(1), 1);
        Check.due("by how many", x.map(2), 21);
        HuntedEye last = Check.line("pulse 1,2,3,4;fore 1;back 0");
        Check.due("the last PHASE", last.map(1), 3);
        HuntedEye none = Check.line("pulse 0;fore 1;back 0");
        for (int what = 0; what < 3; what++) Check.due("none at all", none.map(what), 0);
        HuntedEye all = Check.line("pulse 60,60,60,60;fore 1;back 0;level 1");
        Check.due("all the same", all.map(1), 0);
        HuntedEye later = Check.line("pulse 10,0,0,0,30;fore 1;back 0");
        for (int what = 0; what < 3; what++) Check.due("there is no fifth PHASE", later.map(what), 0);
    }

    private static void mapOfLevels() {
        Check.holds(30, "of all PHASES and all v from - LEVEL to LEVEL: how many have an EYE of 64");
        int[] highs = {0, 1, 63, 64, 65, 127, 128, 129, 192};
        // v from above - high / 64 to high / 64
        int[] open = {0, 1, 1, 2, 3, 3, 4, 5, 6};
        for (int i = 0; i < highs.length; i++) {
            HuntedEye x = Check.line("pulse 1;fore 1;back 0");
            x.set(0, highs[i]);
            if (highs[i] != 64) Check.due("HIGH " + highs[i], x.map(0), open[i]);
        }
        Check.due("HIGH 64", Check.line("pulse 1;fore 1;back 0").map(0), 2);
        Check.due("the least LEVEL", Check.line("pulse 60;fore 1;back 0;level 1").map(0), 3);
        HuntedEye most = Check.line("pulse 60;fore 1;back 0;level 99");
        most.set(0, 255);
        Check.due("the greatest LEVEL", most.map(0), 199);
        Check.due("HIGH is LEVEL", Check.line("pulse 40;fore 1;back 0;level 40").map(0), 80);
        Check.due("HIGH is above LEVEL", Check.line("pulse 41;fore 1;back 0;level 40").map(0), 81);
        Check.due("HIGH is below LEVEL", Check.line("pulse 39;fore 1;back 0;level 40").map(0), 78);
        HuntedEye tracked = Check.line("pulse 60;fore 1;back 0;level 5;track 1;word 1");
        tracked.send(3);
        Check.due("LEVEL as now", tracked.map(0), 2 * 8 + 1);
    }

    private static void bears() {
        Check.holds(31, "BEARS. HIDDEN: no LINE, no such PHASE.");
        Check.due("no LINE", new HuntedEye().bears(0), HIDDEN);
        HuntedEye x = Check.line("pulse 60,1,0,-1;fore 1;back 0");
        for (int phase : new int[] {-1, 4, Integer.MIN_VALUE, Integer.MAX_VALUE}) Check.due("no such PHASE", x.bears(phase), HIDDEN);
        Check.holds(31, "the greatest N (0 .. 99) so that with a noise of -N .. N, whatever it is, in each SAMPLE all 64 ROWS are right by 1 for Z of 0 and more");
        Check.due("Z of 0 would be WRONG for -1", x.bears(0), 59);
        Check.due("0", x.bears(1), 0);
        x.set(0, 1);
        Check.due("60 by a TAP of 1", x.bears(0), 59);
        x.set(0, 64);
        Check.holds(31, "NONE: not even with 0");
        Check.due("Z is 0", x.bears(2), NONE);
        Check.due("Z is changed about", x.bears(3), NONE);
        HuntedEye two = Check.line("pulse 30;fore 2;back 1");
        // Z is 64 * 30 s0 + 30 TAP s1, less as much by the BACK TAP
        two.set(1, 32);
        two.set(2, 15);
        Check.due("noise in each SAMPLE: below 1920 by 96", two.bears(0), 19);
        two.set(1, -32);
        two.set(2, -15);
        Check.due("by the sizes of TAPS", two.bears(0), 19);
        two.set(0, 0);
        Check.due("a SAMPLE that weighs nothing", two.bears(0), NONE);
        Check.due("all TAPS 0", allZero(), NONE);
    }

    private static void bearsAtEachPhase() {
        Check.holds(31, "the greatest N (0 .. 99) so that with a noise of -N .. N, whatever it is, in each SAMPLE all 64 ROWS are right by 1 for Z of 0 and more");
        HuntedEye x = Check.line("pulse 40,30,50,20;fore 3;back 0");
        // Z is 64 p s0 + 16 p s1 - 16 p s2: 32 p at least in size, noise weighs 96
        x.set(1, 16);
        x.set(2, -16);
        int[] due = {13, 9, 16, 6};
        for (int phase = 0; phase < 4; phase++) Check.due("at PHASE " + phase, x.bears(phase), due[phase]);
    }

    private static int allZero() {
        HuntedEye x = Check.line("pulse 30;fore 1;back 0");
        x.set(0, 0);
        return x.bears(0);
    }

    private static void burst() {
        Check.holds(32, "NONE: no LINE, no such ones. HIDDEN: without end.");
        Check.due("no LINE", new HuntedEye().burst(0, 0), NONE);
        HuntedEye x = Check.line(SPREADING);
        for (int row : new int[] {-1, 64, Integer.MIN_VALUE, Integer.MAX_VALUE}) Check.due("no such ROW", x.burst(row, 0), NONE);
        for (int what : new int[] {-1, 2, Integer.MIN_VALUE, Integer.MAX_VALUE}) Check.due("no such what", x.burst(0, what), NONE);
        x.set(1, 4);
        Check.holds(32, "how many followed at most; how many were WRONG at most (the first one, too)");
        // 10 s1 + 10 s2 is 0 where they differ: WRONG for s1 -1, s2 1 alone
        int[] due = {1, 1, 2, 1};
        for (int row = 0; row < 64; row++) {
            Check.due("followed " + row, x.burst(row, 0), due[row % 4]);
            Check.due("WRONG " + row, x.burst(row, 1), due[row % 4]);
        }
        x.set(1, 3);
        for (int row = 0; row < 64; row++) {
            Check.due("followed by less " + row, x.burst(row, 0), 1);
            Check.due("WRONG by less " + row, x.burst(row, 1), 1);
        }
        // by a TAP of 1 and a BACK TAP of 1 Z is 10 s1 + 9 s2: -1 for s1 -1, s2 1, and that is right
        HuntedEye least = Check.line("pulse 0,0,0,0,10,0,0,0,-55;fore 1;back 1;delay 1");
        least.set(0, 1);
        least.set(1, 1);
        for (int row = 0; row < 64; row++) Check.due("Z of -1 is right for -1", least.burst(row, 0), 1);
        // Z is 64 times 10 s0 + 9 s1 + 2 s2: WRONG where s1 and s2 are not s0; behind two alike one follows, by either bit
        HuntedEye either = Check.line("pulse 10,0,0,0,5,0,0,0,2;fore 1;back 1");
        either.set(1, 4);
        int[] two = {2, 1, 1, 2};
        for (int row = 0; row < 64; row++) {
            Check.due("followed by either bit " + row, either.burst(row, 0), two[row % 4]);
            Check.due("WRONG by either bit " + row, either.burst(row, 1), two[row % 4]);
        }
        Check.holds(32, "BURST: TAPS as they are, none LEARNT, no noise, PHASE as now");
        HuntedEye y = Check.line("pulse 20,0,0,0,0,20;fore 1;back 1;noise 4;lock 1;word 1");
        Check.due("PHASE 0", y.burst(0, 0), 1);
        y.phase(1);
        Check.due("PHASE 1: Z is 64 * 20 s1", y.burst(1, 0), HIDDEN);
        Check.due("PHASE stays", y.now(1), 1);
        Check.due("T stays", y.now(0), 0);
        burstByAllTaps();
    }

    private static void burstByAllTaps() {
        // Z is 64 times 20 s0 + 10 s1, less 10 times KEPT: behind a WRONG one 20 s0 + 20 s1
        HuntedEye fore = Check.line("pulse 20;fore 2;back 1");
        fore.set(1, 32);
        fore.set(2, 10);
        // Z is 64 times 20 s0 + 10 s1 + 5 s2, less 10 and 5 times KEPT
        HuntedEye back = Check.line("pulse 20,0,0,0,10,0,0,0,5;fore 1;back 2");
        back.set(1, 10);
        back.set(2, 5);
        for (int row = 0; row < 64; row++) {
            Check.due("two FORE TAPS, followed " + row, fore.burst(row, 0), 1 + row % 2);
            Check.due("two FORE TAPS, WRONG " + row, fore.burst(row, 1), 1 + row % 2);
            Check.due("two BACK TAPS, followed " + row, back.burst(row, 0), 2 + row % 2);
            Check.due("two BACK TAPS, WRONG " + row, back.burst(row, 1), 1 + row % 2);
        }
    }

    private static void burstOfBackTaps() {
        Check.holds(32, "Without BACK TAPS 0 followed, 1 WRONG.");
        HuntedEye none = Check.line("pulse -20;fore 1;back 0");
        for (int row = 0; row < 64; row++) {
            Check.due("followed", none.burst(row, 0), 0);
            Check.due("WRONG", none.burst(row, 1), 1);
        }
        Check.holds(32, "until none of the newest as many as there are BACK TAPS is WRONG");
        for (int back = 1; back <= 3; back++) {
            HuntedEye x = Check.line("pulse 20;fore 1;back " + back);
            for (int row = 0; row < 64; row += 9) {
                Check.due("followed, all right", x.burst(row, 0), back);
                Check.due("WRONG", x.burst(row, 1), 1);
            }
            // the oldest BACK TAP takes off what the pulse leaves; behind a WRONG one it comes twice
            StringBuilder pulse = new StringBuilder("pulse 20");
            for (int i = 1; i <= 4 * back; i++) pulse.append(i == 4 * back ? ",10" : ",0");
            x = Check.line(pulse + ";fore 1;back " + back);
            x.set(back, 9);
            Check.due("20 s0 + 19 s: still right", x.burst(1, 0), back);
            x.set(back, 10);
            // 20 s0 + 20 s: WRONG for s0 -1, s 1
            Check.due("the oldest makes one WRONG again", x.burst(1, 0), 2 * back);
            Check.due("two WRONG", x.burst(1, 1), 2);
            Check.due("all ones ahead of it are right", x.burst((1 << back) - 1, 0), 2 * back);
            Check.due("two WRONG", x.burst(63, 1), 2);
            Check.due("behind one that was -1", x.burst(0, 0), back);
        }
    }

    private static void burstOfAllWrong() {
        Check.holds(32, "how many followed at most; how many were WRONG at most (the first one, too)");
        HuntedEye x = Check.line("pulse -26,0,0,0,10,0,0,0,38,0,0,0,-17;fore 1;back 3;delay 2");
        x.set(1, -16);
        x.set(2, 57);
        x.set(3, 58);
        // from ROW 15 by ones alone Z is 64 times 5 less 15, 17, -99, -131, -17: two more are WRONG, so are all three newest, then three right
        int[] rows = {7, 8, 15, 23, 24, 39, 40, 47, 55, 56};
        int[] due = {3, 4, 5, 4, 3, 3, 4, 5, 4, 3};
        for (int i = 0; i < rows.length; i++) Check.due("followed from " + rows[i], x.burst(rows[i], 0), due[i]);
        Check.due("WRONG from 15", x.burst(15, 1), 3);
        Check.due("from others it may never end", x.burst(63, 0), HIDDEN);
        Check.due("the lowest of these", x.bursts(), 0);
    }

    private static void burstByTheWorstWay() {
        Check.holds(32, "how many followed at most; how many were WRONG at most (the first one, too)");
        HuntedEye x = Check.line("pulse 20;fore 1;back 1;delay 2");
        x.set(1, 20);
        // behind a WRONG one Z is 64 times 20 s0 + 20 s3: 1 unless both are -1, WRONG if that is not s2
        int[] due = {4, 3, 6, 2, 5, 7, 1, 1};
        for (int row = 0; row < 64; row++) {
            Check.due("followed from " + row, x.burst(row, 0), due[row % 8]);
            Check.due("WRONG from " + row, x.burst(row, 1), due[row % 8]);
        }
        Check.due("the ROW", x.bursts(), 5);
    }

    private static void burstWithoutEnd() {
        Check.holds(32, "HIDDEN: there is a way on which it never ends");
        HuntedEye x = Check.line(SPREADING);
        x.set(1, 5);
        // 10 s1 + 11 s2: WRONG as long as they differ
        int[] due = {1, HIDDEN, HIDDEN, 1};
        for (int row = 0; row < 64; row++) {
            Check.due("followed " + row, x.burst(row, 0), due[row % 4]);
            Check.due("WRONG " + row, x.burst(row, 1), due[row % 4]);
        }
        Check.holds(32, "from a ROW whose newest DECISION is WRONG, whatever it would be, all ones ahead of it right");
        HuntedEye all = Check.line("pulse -20;fore 1;back 1");
        for (int row = 0; row < 64; row++) Check.due("all are WRONG", all.burst(row, 0), HIDDEN);
    }

    private static void bursts() {
        Check.holds(33, "BURSTS: the ROW. NONE: no LINE.");
        Check.due("no LINE", new HuntedEye().bursts(), NONE);
        Check.holds(33, "BURSTS: the ROW from which most follow (of several the lowest; any without end is most).");
        HuntedEye x = Check.line(SPREADING);
        Check.due("all the same", x.bursts(), 0);
        x.set(1, 4);
        Check.due("the lowest of those from which two follow", x.bursts(), 2);
        x.set(1, 5);
        Check.due("the lowest of those without end", x.bursts(), 1);
        x.set(1, 255);
        Check.due("the lowest of those without end", x.bursts(), 1);
        Check.due("without BACK TAPS", Check.line("pulse 20;back 0").bursts(), 0);
        Check.due("all without end", Check.line("pulse -20;back 1").bursts(), 0);
    }

    private static void burstsOfManyRows() {
        Check.holds(33, "BURSTS: the ROW from which most follow (of several the lowest; any without end is most).");
        for (int back = 1; back <= 3; back++) Check.due("all the same", Check.line("pulse 20;fore 1;back " + back).bursts(), 0);
        HuntedEye x = Check.line("pulse 15,0,0,0,-10,0,0,0,45;fore 1;back 2;delay 2");
        x.set(1, -10);
        x.set(2, 10);
        int[] due = {3, 2, 2, 2, 2, 2, 4, 2, 2, 2, 2, 2, 2, 2, 4, 2};
        for (int row = 0; row < 64; row++) Check.due("followed from " + row, x.burst(row, 0), due[row % 16]);
        Check.due("those that follow, not those that are WRONG", x.bursts(), 6);
        HuntedEye y = Check.line("pulse 10,0,0,0,-10,0,0,0,30;fore 1;back 3;delay 2");
        y.set(1, -10);
        y.set(2, -10);
        y.set(3, 10);
        Check.due("a later ROW", y.bursts(), 16);
        Check.due("twelve follow", y.burst(16, 0), 12);
        for (int row = 0; row < 16; row++) Check.due("fewer follow from " + row, y.burst(row, 0) < 12 && y.burst(row, 0) > 0, true);
    }

    private static void unrolled() {
        Check.holds(34, "HIDDEN: no SYMBOL yet, no such row.");
        Check.due("no LINE", new HuntedEye().unrolled(0), HIDDEN);
        for (int back = 0; back <= 3; back++) {
            HuntedEye x = Check.line("pulse 20;fore 1;word 1;back " + back);
            Check.due("no SYMBOL yet", x.unrolled(0), HIDDEN);
            for (int j = 1; j <= back; j++) x.set(j, 1 << j);
            x.send(1);
            Check.holds(34, "as many as BACK TAPS");
            for (int row = 0; row < 1 << back; row++) {
                int off = 0;
                for (int j = 1; j <= back; j++) off += (row >> j - 1 & 1) == 1 ? 1 << j : -(1 << j);
                Check.due("row " + row, x.unrolled(row), 1280 - 64 * off);
            }
            Check.holds(34, "HIDDEN: no SYMBOL yet, no such row.");
            Check.due("no such row", x.unrolled(1 << back), HIDDEN);
            Check.due("no such row", x.unrolled(-1), HIDDEN);
            for (int far : FAR) Check.due("far", x.unrolled(far), HIDDEN);
            x.undo();
            Check.due("UNDONE: no SYMBOL yet", x.unrolled(0), HIDDEN);
        }
        HuntedEye y = Check.line("pulse 20;word 1");
        y.image();
        y.send(1);
        y.back();
        Check.due("BACK: no SYMBOL yet", y.unrolled(0), HIDDEN);
    }

    private static void unrolledThen() {
        Check.holds(34, "at the latest SYMBOL (as it was then, ahead of what it LEARNT)");
        HuntedEye x = Check.line("pulse 20,60;fore 2;back 1;word 1");
        x.send(2);
        // then TAP 0 was 65, TAP 1 was 0: no SAMPLE ahead of the first; the BACK TAP was 0
        Check.due("ahead of what it LEARNT", x.unrolled(0), 65 * 20);
        Check.due("it LEARNT", Check.tap(x, 0, 0) + Check.tap(x, 1, 0) - Check.tap(x, 2, 0), 66 + 1 + 1);
        x.set(0, -9);
        x.set(2, 99);
        x.phase(1);
        x.drop();
        Check.due("as it was then", x.unrolled(1), 65 * 20);
        x.send(1);
        // the SAMPLE is MISSING, the one ahead was 20 by TAP 1
        Check.due("a MISSING one", x.unrolled(1), 20 - 64 * 99);
        Check.due("a MISSING one", x.unrolled(0), 20 + 64 * 99);
    }

    private static int improvedFrom(int value, int what) {
        HuntedEye x = Check.line("pulse 20;fore 1;back 0");
        x.set(0, value);
        return x.improved(0, what);
    }

    private static void improved() {
        Check.holds(35, "which value, not more than 31 from what it is (-255 .. 255), gives the greatest HEIGHT at the PHASE as now");
        Check.due("31 more", improvedFrom(65, 0), 96);
        Check.due("its HEIGHT", improvedFrom(65, 1), 40 * 96);
        Check.due("to 255 itself", improvedFrom(224, 0), 255);
        Check.due("not beyond", improvedFrom(225, 0), 255);
        Check.due("at 255", improvedFrom(255, 0), 255);
        Check.due("from -255", improvedFrom(-255, 0), -224);
        HuntedEye less = Check.line("pulse -20;fore 1;back 0");
        Check.due("31 less", less.improved(0, 0), 33);
        less.set(0, -224);
        Check.due("to -255 itself", less.improved(0, 0), -255);
        less.set(0, -225);
        Check.due("not beyond", less.improved(0, 0), -255);
        less.set(0, -255);
        Check.due("at -255", less.improved(0, 0), -255);
        Check.due("its HEIGHT", less.improved(0, 1), 40 * 255);
        HuntedEye six = Check.line("pulse 20,0,0,0,0,0,0,0,0,0,0,0,10;fore 3;back 3");
        Check.due("the sixth TAP", six.improved(5, 0), 10);
        Check.due("its HEIGHT", six.improved(5, 1), 2 * 1280);
        Check.holds(35, "HIDDEN: no such ones.");
        Check.due("no LINE", new HuntedEye().improved(0, 0), HIDDEN);
        for (int tap : new int[] {-1, 1, Integer.MIN_VALUE, Integer.MAX_VALUE}) Check.due("no such TAP", less.improved(tap, 0), HIDDEN);
        for (int what : new int[] {-1, 2, Integer.MIN_VALUE, Integer.MAX_VALUE}) Check.due("no such what", less.improved(0, what), HIDDEN);
        Check.due("the TAP stays", Check.tap(less, 0, 0), -255);
    }

    private static void improvedTies() {
        Check.holds(35, "gives the greatest HEIGHT at the PHASE as now (of several the least)");
        HuntedEye x = Check.line("pulse 20,0,0,0,10;fore 1;back 1");
        x.phase(1);
        Check.due("all the same: the least", x.improved(0, 0), 33);
        Check.due("HEIGHT", x.improved(0, 1), 0);
        x.phase(0);
        Check.due("the BACK TAP that takes 10 off", x.improved(1, 0), 10);
        Check.due("HEIGHT", x.improved(1, 1), 2 * 1280);
        x.set(1, 41);
        Check.due("31 less", x.improved(1, 0), 10);
        x.set(1, 42);
        Check.due("no more than 31", x.improved(1, 0), 11);
        x.set(1, -21);
        Check.due("31 more", x.improved(1, 0), 10);
        x.set(1, -22);
        Check.due("no more than 31", x.improved(1, 0), 9);
        HuntedEye flat = Check.line("pulse 0,0,0,0,0;fore 2;back 0");
        flat.set(1, -255);
        Check.due("all the same at the edge: the least", flat.improved(1, 0), -255);
        flat.set(1, 255);
        Check.due("all the same at the edge: the least", flat.improved(1, 0), 224);
    }
}
