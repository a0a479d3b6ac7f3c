import java.math.BigInteger;
import java.util.NoSuchElementException;

/** The boundary cases of promises 8 to 10, 12 and 23: what a SYMBOL does, and what is told of it. */
public final class SymbolEdgesTest {
    private static final int HIDDEN = HuntedEye.HIDDEN;
    private static final int NONE = HuntedEye.NONE;
    private static final int[] FAR = {Integer.MIN_VALUE, Integer.MAX_VALUE};
    /** Its ERROR is 0: nothing moves. */
    private static final String STILL = "pulse 20;fore 1;back 0;level 20;word 1";
    /** By LEVEL 40 the sign of the ERROR is -1 at PHASES 0 and 2, 1 at 1 and 3. */
    private static final String HUNT = "pulse 30,50,30,50;fore 1;back 0;level 40;gear 9;word 1;lock ";

    public static void main(String[] args) {
        tapsAtFirst();
        nowAtFirst();
        tapNoSuch();
        nowNoSuch();
        ago();
        bitOfWord();
        bitOfRegister();
        sampleByPulse();
        noise();
        drawsGoRound();
        missing();
        decision();
        backTapsAtFirst();
        truth();
        training();
        quiet();
        dark();
        learns();
        votesOfNothing();
        gear();
        gearOfEachTap();
        tapBounds();
        levelBounds();
        lock();
        votesByKept();
        lockAfterOnesNotLearnt();
        phaseBounds();
        runs();
        runsOfBackTaps();
        sendRefused();
        lastT();
        log();
        logMarks();
        Check.finish();
    }

    private static void tapsAtFirst() {
        Check.holds(8, "TAP 0 is 64 at first, all others 0; each has VOTES (0 at first), so have LEVEL and PHASE");
        HuntedEye x = Check.line("pulse 30;fore 3;back 3");
        for (int i = 0; i < 6; i++) {
            Check.due("TAP " + i, Check.tap(x, i, 0), i == 0 ? 64 : 0);
            Check.due("VOTES " + i, Check.tap(x, i, 1), 0);
        }
        Check.due("VOTES of LEVEL", x.now(17), 0);
        Check.due("VOTES of PHASE", x.now(18), 0);
        Check.holds(8, "TAPS are numbered: FORE ones (fore), then BACK ones (back)");
        HuntedEye y = Check.line("pulse 30;fore 2;back 1;gear 9;word 1");
        y.send(3);
        int[] votes = {3, 2, -2};
        for (int i = 0; i < 3; i++) Check.due("VOTES " + i, Check.tap(y, i, 1), votes[i]);
    }

    private static void nowAtFirst() {
        Check.holds(9, "At first the PHASE is 0, it is not HELD, not DARK, T is 0, LEVEL, TRAIN and NOISE are as told, the REGISTER is seed");
        HuntedEye x = Check.line("pulse 30;level 77;train 66;noise 3;seed 55");
        int[] due = {0, 0, 0, 0, 3, 66, 55, 0, 0, 0, 0, 0, 0, 0, 0, 0, 77, 0, 0};
        for (int what = 0; what < 19; what++) Check.due("now " + what, x.now(what), due[what]);
    }

    private static boolean throwsNoSuch(HuntedEye x, int tap, int what) {
        try {
            x.tap(tap, what);
            return false;
        } catch (NoSuchElementException e) {
            return e.getClass() == NoSuchElementException.class;
        }
    }

    private static void tapNoSuch() {
        Check.holds(8, "NoSuchElementException: no such ones.");
        Check.due("no LINE", throwsNoSuch(new HuntedEye(), 0, 0), true);
        HuntedEye x = Check.line("pulse 30;fore 1;back 0");
        Check.due("the only TAP", throwsNoSuch(x, 0, 0), false);
        Check.due("its VOTES", throwsNoSuch(x, 0, 1), false);
        Check.due("no second TAP", throwsNoSuch(x, 1, 0), true);
        Check.due("none ahead", throwsNoSuch(x, -1, 0), true);
        Check.due("no such what", throwsNoSuch(x, 0, 2), true);
        Check.due("no such what", throwsNoSuch(x, 0, -1), true);
        for (int far : FAR) {
            Check.due("far", throwsNoSuch(x, far, 0), true);
            Check.due("far", throwsNoSuch(x, 0, far), true);
        }
        HuntedEye y = Check.line("pulse 30;fore 3;back 3");
        Check.due("the sixth TAP", throwsNoSuch(y, 5, 1), false);
        Check.due("no seventh", throwsNoSuch(y, 6, 1), true);
        Check.retell(y, "pulse 30;fore 1;back 1");
        Check.due("the sixth of another LINE", throwsNoSuch(y, 5, 0), true);
    }

    private static void nowNoSuch() {
        Check.holds(9, "HIDDEN: no LINE, no such what.");
        HuntedEye x = new HuntedEye();
        for (int what = -1; what <= 19; what++) Check.due("no LINE " + what, x.now(what), HIDDEN);
        Check.retell(x, STILL);
        Check.due("the last", x.now(18), 0);
        Check.due("no such what", x.now(19), HIDDEN);
        Check.due("no such what", x.now(-1), HIDDEN);
        for (int far : FAR) Check.due("far", x.now(far), HIDDEN);
    }

    private static void ago() {
        Check.holds(10, "0 the latest; up to 5, KEPT and the SAMPLE up to 2; 0 ahead of the first");
        HuntedEye x = Check.line("pulse 20;fore 1;back 0;level 20;word 1,0,0,1,1,1,0,1");
        int[] bits = {1, -1, -1, 1, 1, 1, -1, 1};
        for (int sent = 0; sent <= 8; sent++) {
            for (int i = 0; i < 6; i++) Check.due("SENT", x.ago(0, i), i < sent ? bits[sent - 1 - i] : 0);
            for (int i = 0; i < 3; i++) Check.due("KEPT", x.ago(1, i), i < sent ? bits[sent - 1 - i] : 0);
            for (int i = 0; i < 3; i++) Check.due("the SAMPLE", x.ago(2, i), i < sent ? 20 * bits[sent - 1 - i] : 0);
            x.send(1);
        }
        Check.holds(10, "the SAMPLE (2; 0 for MISSING)");
        x.drop();
        x.send(1);
        Check.due("MISSING", x.ago(2, 0), 0);
        x.send(2);
        Check.due("MISSING two ago", x.ago(2, 2), 0);
        Check.holds(10, "HIDDEN: no LINE, no such ones.");
        int[] beyond = {6, 3, 3};
        for (int what = 0; what < 3; what++) {
            Check.due("no LINE", new HuntedEye().ago(what, 0), HIDDEN);
            Check.due("too long ago", x.ago(what, beyond[what]), HIDDEN);
            Check.due("not yet", x.ago(what, -1), HIDDEN);
            for (int far : FAR) Check.due("far", x.ago(what, far), HIDDEN);
        }
        Check.due("no such what", x.ago(3, 0), HIDDEN);
        Check.due("no such what", x.ago(-1, 0), HIDDEN);
        for (int far : FAR) Check.due("far", x.ago(far, 0), HIDDEN);
    }

    private static void bitOfWord() {
        Check.holds(12, "with a word number T modulo how many it has");
        String[] words = {"1", "0", "0,1", "1,0,0", "1,0,0,0,0,0,0,0,0,0,0,0,0,0,0,1"};
        for (String word : words) {
            HuntedEye x = Check.line("pulse 20;word " + word);
            String[] bits = word.split(",");
            for (int t = 0; t < 40; t++) {
                x.send(1);
                Check.due("word " + word + " at T " + t, x.ago(0, 0), bits[t % bits.length].equals("1") ? 1 : -1);
            }
            Check.due("the REGISTER stays", x.now(6), 1);
        }
    }

    private static void bitOfRegister() {
        Check.holds(12, "its bit 6 being the exclusive or of its bits 0 and 1 as they were");
        // bits 1 and 0: 1; 1 and 1: 0; 0 and 1: 1; 0 and 0: 0
        int[] seeds = {1, 127, 2, 64, 3};
        int[] then = {64, 63, 65, 32, 1};
        for (int i = 0; i < seeds.length; i++) {
            HuntedEye x = Check.line("pulse 20;seed " + seeds[i]);
            x.send(1);
            Check.due("the REGISTER behind " + seeds[i], x.now(6), then[i]);
            Check.due("the bit of " + seeds[i], x.ago(0, 0), seeds[i] % 2 == 1 ? 1 : -1);
        }
        HuntedEye x = Check.line("pulse 20;seed 99");
        boolean[] seen = new boolean[128];
        for (int i = 0; i < 127; i++) {
            Check.due("not there before", seen[x.now(6)], false);
            seen[x.now(6)] = true;
            x.send(1);
        }
        Check.due("round behind 127", x.now(6), 99);
        Check.due("never 0", seen[0], false);
    }

    private static void sampleByPulse() {
        Check.holds(12, "of all k from 0 with 4 k and PHASE below how many numbers pulse has");
        StringBuilder pulse = new StringBuilder("pulse 1");
        for (int n = 1; n <= 16; n++) {
            if (n > 1) pulse.append(',').append(n);
            for (int phase = 0; phase < 4; phase++) {
                HuntedEye x = Check.line(pulse + ";fore 1;back 0;word 1");
                x.phase(phase);
                x.send(5);
                int due = 0;
                for (int i = phase; i < n; i += 4) due += i + 1;
                Check.due(n + " numbers at PHASE " + phase, x.log(0, 0), due);
            }
        }
        Check.holds(12, "times SENT k SYMBOLS ago (ahead of the first SYMBOL 0)");
        HuntedEye y = Check.line("pulse 1,0,0,0,2,0,0,0,4,0,0,0,8;fore 1;back 0;word 1");
        int[] due = {1, 3, 7, 15, 15};
        for (int sample : due) {
            y.send(1);
            Check.due("the SAMPLE", y.log(0, 0), sample);
        }
    }

    /** The draw of j that follows when the number is this, by numbers without bounds. */
    private static int draw(BigInteger turned, int j) {
        return turned.shiftRight(33).mod(BigInteger.valueOf(j)).intValue();
    }

    private static BigInteger turned(BigInteger x) {
        return x.multiply(new BigInteger("6364136223846793005")).add(new BigInteger("1442695040888963407")).mod(BigInteger.ONE.shiftLeft(64));
    }

    private static void noise() {
        Check.holds(12, "by NOISE above 0 a draw of twice NOISE and 1, less NOISE");
        for (int noise = 1; noise <= 4; noise++) {
            HuntedEye x = Check.line("pulse 20;fore 1;back 0;word 1;noise " + noise);
            BigInteger at = BigInteger.ZERO;
            int least = 99;
            int most = -99;
            for (int i = 0; i < 150; i++) {
                x.send(1);
                at = turned(at);
                int sample = x.log(0, 0);
                Check.due("the SAMPLE by NOISE " + noise, sample, 20 + draw(at, 2 * noise + 1) - noise);
                least = Math.min(least, sample);
                most = Math.max(most, sample);
            }
            Check.due("the least", least, 20 - noise);
            Check.due("the most", most, 20 + noise);
        }
        HuntedEye x = Check.line("pulse 20;fore 1;back 0;word 1");
        x.send(50);
        Check.due("no NOISE", x.log(0, 0), 20);
        x.change(0, 4);
        x.send(1);
        Check.due("no draw was made without NOISE", x.log(0, 0), 16 + draw(turned(BigInteger.ZERO), 9));
    }

    private static void drawsBehind(long first) {
        HuntedEye x = Check.line("pulse 20;fore 1;back 0;word 1;noise 4");
        x.dice(first);
        BigInteger at = new BigInteger(Long.toUnsignedString(first));
        for (int i = 0; i < 30; i++) {
            x.send(1);
            at = turned(at);
            Check.due("draw " + i + " behind " + first, x.log(0, 0), 16 + draw(at, 9));
        }
    }

    private static void drawsGoRound() {
        Check.holds(12, "64 bits, going round");
        for (long first : new long[] {2, 3, 4, 1L << 32, 1L << 33, 1L << 62, Long.MAX_VALUE}) drawsBehind(first);
        Check.holds(12, "that shifted right by 33, without sign) modulo j");
        for (long first : new long[] {0, 1, -1, -(1L << 33), Long.MIN_VALUE}) drawsBehind(first);
    }

    private static void missing() {
        Check.holds(12, "By a DROP ahead it is MISSING (the draw is made).");
        HuntedEye x = Check.line("pulse 20;fore 1;back 0;word 1;noise 4");
        x.drop();
        x.send(1);
        Check.due("MISSING", x.log(0, 0), HIDDEN);
        x.send(1);
        Check.due("the second draw", x.log(0, 0), 16 + draw(turned(turned(BigInteger.ZERO)), 9));
        Check.holds(12, "MISSING ones, those ahead of the first 0");
        HuntedEye y = Check.line("pulse 20;fore 3;back 0;word 1");
        y.hold(1);
        y.set(0, 1);
        y.set(1, 10);
        y.set(2, 100);
        int[] z = {20, 220, 2220, 2200, 2020, 220, 2220};
        for (int i = 0; i < 7; i++) {
            if (i == 3) y.drop();
            y.send(1);
            Check.due("Z of SYMBOL " + i, y.log(0, 1), z[i]);
        }
    }

    private static void decision() {
        Check.holds(12, "The DECISION is 1 by Z of 0 and more, else -1.");
        int[] taps = {0, 1, -1};
        for (int tap : taps) {
            HuntedEye x = Check.line("pulse 1;fore 1;back 0;word 1;floor 0");
            x.hold(1);
            x.set(0, tap);
            Check.due("WRONG by Z " + tap, x.send(1), tap < 0 ? 1 : 0);
            Check.due("Z", x.log(0, 1), tap);
            Check.due("KEPT", x.ago(1, 0), tap < 0 ? -1 : 1);
        }
        HuntedEye y = Check.line("pulse 1;fore 1;back 0;word 0;floor 0");
        y.set(0, 0);
        Check.due("Z of 0 for a bit 0 is WRONG", y.send(1), 1);
    }

    private static void backTapsAtFirst() {
        Check.holds(12, "less 64 times each BACK TAP j (from 1) times KEPT j SYMBOLS ago (ahead of the first 0)");
        HuntedEye x = Check.line("pulse 60;fore 1;back 3;word 1");
        x.hold(1);
        x.set(1, 1);
        x.set(2, 3);
        x.set(3, 9);
        int[] off = {0, 1, 4, 13, 13};
        for (int i = 0; i < 5; i++) {
            x.send(1);
            Check.due("Z of SYMBOL " + i, x.log(0, 1), 64 * (60 - off[i]));
        }
    }

    private static void truth() {
        Check.holds(12, "The TRUTH is SENT delay SYMBOLS ago (none ahead of the first one).");
        for (int delay = 0; delay <= 2; delay++) {
            HuntedEye x = Check.line("pulse -20;fore 1;back 0;word 1;delay " + delay);
            x.hold(1);
            for (int t = 0; t < 5; t++) Check.due("WRONG with delay " + delay + " at T " + t, x.send(1), t >= delay ? 1 : 0);
        }
        Check.holds(12, "It is WRONG, if there is a TRUTH and the DECISION is not that.");
        // SENT 1 -1 -1 1 1 1: DECISIONS are those; TRUTHS none, none, 1 -1 -1 1
        HuntedEye y = Check.line("pulse 20;fore 1;back 0;word 1,0,0,1,1,1;delay 2");
        y.hold(1);
        int[] wrong = {0, 0, 1, 1, 1, 0};
        for (int i = 0; i < 6; i++) Check.due("SYMBOL " + i, y.send(1), wrong[i]);
    }

    private static void training() {
        Check.holds(12, "KEPT is the TRUTH, if TRAIN is above 0 and there is one, else the DECISION; TRAIN above 0 is one less.");
        for (int train = 0; train <= 2; train++) {
            HuntedEye x = Check.line("pulse -20;fore 1;back 0;word 1;train " + train);
            x.hold(1);
            for (int t = 0; t < 4; t++) {
                x.send(1);
                Check.due("KEPT with train " + train + " at T " + t, x.ago(1, 0), t < train ? 1 : -1);
                Check.due("TRAIN", x.now(5), Math.max(0, train - t - 1));
                Check.due("KEPT by TRAINING", x.log(0, 2) / 32, t < train ? 1 : 0);
                Check.due("WRONG all the same", x.log(0, 2) / 4 % 2, 1);
            }
        }
        HuntedEye late = Check.line("pulse -20;fore 1;back 0;word 1;train 3;delay 2");
        late.hold(1);
        int[] kept = {-1, -1, 1, -1};
        for (int t = 0; t < 4; t++) {
            late.send(1);
            Check.due("KEPT at T " + t, late.ago(1, 0), kept[t]);
            Check.due("TRAIN is less without a TRUTH, too", late.now(5), Math.max(0, 2 - t));
            Check.due("KEPT by TRAINING", late.log(0, 2) / 32, t == 2 ? 1 : 0);
        }
        HuntedEye most = Check.line("pulse -20;fore 1;back 0;word 1;train 99");
        most.send(60);
        most.send(38);
        Check.due("the 98th", most.now(5), 1);
        most.send(1);
        Check.due("the 99th", most.ago(1, 0), 1);
        Check.due("no more", most.now(5), 0);
    }

    private static void quiet() {
        Check.holds(9, "A SAMPLE that is MISSING or smaller in size than floor is QUIET");
        int[] floors = {0, 1, 4, 59, 60};
        for (int floor : floors) {
            for (int size = Math.max(0, floor - 1); size <= Math.min(60, floor + 1); size++) {
                for (int sign = -1; sign <= 1; sign += 2) {
                    HuntedEye x = Check.line("pulse " + sign * size + ";word 1;floor " + floor);
                    x.send(1);
                    Check.due("QUIET " + sign * size + " by floor " + floor, x.now(8), size < floor ? 1 : 0);
                    Check.due("not QUIET " + sign * size + " by floor " + floor, x.now(9), size < floor ? 0 : 1);
                }
            }
        }
        HuntedEye x = Check.line("pulse 60;word 1;floor 0");
        x.drop();
        x.send(1);
        Check.due("MISSING by floor 0", x.now(8), 1);
    }

    /** Sends SAMPLES, one for each sign: q QUIET, l not, m MISSING (not QUIET but for that). */
    private static void hear(HuntedEye x, String signs) {
        for (char sign : signs.toCharArray()) {
            x.phase(sign == 'q' ? 1 : 0);
            if (sign == 'm') x.drop();
            x.send(1);
        }
    }

    private static void dark() {
        Check.holds(9, "with the fourth QUIET one in a row it is DARK, with the fourth in a row that is not QUIET no longer");
        String[] heard = {"qqq", "qqqq", "qqqlqqq", "qqqlqqqq", "mmmm", "mqmq", "qqqqlll", "qqqqllll", "qqqqlllqlll", "qqqqlllmlll",
            "qqqqlllqllll", "llll", "qqqqllllqqq", "qqqqllllqqqq"};
        int[] isDark = {0, 1, 0, 1, 1, 1, 1, 0, 1, 1, 0, 0, 0, 1};
        for (int i = 0; i < heard.length; i++) {
            HuntedEye x = Check.line("pulse 20,3;floor 4;word 1");
            hear(x, heard[i]);
            Check.due(heard[i], x.now(3), isDark[i]);
        }
        Check.holds(9, "8 how many QUIET in a row (4 at most), 9 how many that are not (4 at most)");
        HuntedEye x = Check.line("pulse 20,3;floor 4;word 1");
        for (int i = 1; i <= 6; i++) {
            hear(x, "q");
            Check.due("QUIET", x.now(8), Math.min(i, 4));
            Check.due("not QUIET", x.now(9), 0);
        }
        for (int i = 1; i <= 6; i++) {
            hear(x, "l");
            Check.due("QUIET", x.now(8), 0);
            Check.due("not QUIET", x.now(9), Math.min(i, 4));
        }
    }

    private static void learns() {
        Check.holds(12, "It LEARNS, if it is not HELD, not DARK (by now), and the SAMPLE is not MISSING");
        HuntedEye x = Check.line("pulse 20,3;floor 4;word 1;fore 1;back 0;gear 9");
        String heard = "lqqqqqlllllml";
        // the fourth QUIET one is DARK by now, the fourth that is not QUIET is no longer
        int[] learnt = {1, 2, 3, 4, 4, 4, 4, 4, 4, 5, 6, 6, 7};
        for (int i = 0; i < heard.length(); i++) {
            int votes = Check.tap(x, 0, 1);
            int before = x.now(11);
            hear(x, heard.substring(i, i + 1));
            Check.due("LEARNT ever at " + i, x.now(11), learnt[i]);
            Check.due("it LEARNT at " + i, x.log(0, 2) / 16 % 2, learnt[i] - before);
            if (learnt[i] == before) Check.due("VOTES stay at " + i, Check.tap(x, 0, 1), votes);
        }
        x.hold(1);
        hear(x, "lll");
        Check.due("HELD", x.now(11), 7);
        x.hold(0);
        hear(x, "l");
        Check.due("not HELD", x.now(11), 8);
    }

    private static void votesOfNothing() {
        Check.holds(12, "0 for none, for MISSING, for 0");
        HuntedEye x = Check.line("pulse 30;fore 3;back 0;gear 9;word 1");
        int[][] votes = {{1, 0, 0}, {2, 1, 0}, {3, 2, 1}, {3, 2, 1}, {4, 2, 2}, {5, 3, 2}};
        for (int t = 0; t < 6; t++) {
            if (t == 3) x.drop();
            x.send(1);
            for (int i = 0; i < 3; i++) Check.due("VOTES of TAP " + i + " at T " + t, Check.tap(x, i, 1), votes[t][i]);
        }
        HuntedEye flat = Check.line("pulse 0;fore 2;back 0;gear 9;word 1;floor 0");
        flat.send(5);
        Check.due("LEARNT", flat.now(11), 5);
        Check.due("a SAMPLE of 0", Check.tap(flat, 0, 1), 0);
        Check.due("a SAMPLE of 0", Check.tap(flat, 1, 1), 0);
        Check.holds(12, "of each BACK TAP j by KEPT j SYMBOLS ago (0 for none) times the sign of the ERROR");
        HuntedEye y = Check.line("pulse 30;fore 1;back 3;gear 9;word 1");
        for (int t = 0; t < 4; t++) {
            y.send(1);
            for (int j = 1; j <= 3; j++) Check.due("VOTES of BACK TAP " + j + " at T " + t, Check.tap(y, j, 1), -Math.max(0, t - j + 1));
        }
        Check.holds(12, "The ERROR is Z less 64 times LEVEL times KEPT.");
        HuntedEye none = Check.line(STILL + ";track 1;gear 9");
        none.send(9);
        Check.due("LEARNT", none.now(11), 9);
        Check.due("an ERROR of 0", Check.tap(none, 0, 1), 0);
        Check.due("an ERROR of 0", none.now(17), 0);
    }

    private static void gear() {
        Check.holds(12, "VOTES whose size is gear or more then become 0, and the TAP, the LEVEL is one more by VOTES above 0, one less by those below 0");
        for (int gear = 1; gear <= 9; gear++) {
            HuntedEye up = Check.line("pulse 10;fore 1;back 0;track 1;level 60;word 1;gear " + gear);
            HuntedEye down = Check.line("pulse 60;fore 1;back 0;track 1;level 5;word 1;gear " + gear);
            for (int n = 1; n <= 18; n++) {
                up.send(1);
                down.send(1);
                Check.due("TAP up by gear " + gear, Check.tap(up, 0, 0), 64 + n / gear);
                Check.due("its VOTES", Check.tap(up, 0, 1), n % gear);
                Check.due("TAP down by gear " + gear, Check.tap(down, 0, 0), 64 - n / gear);
                Check.due("its VOTES", Check.tap(down, 0, 1), -(n % gear));
                Check.due("LEVEL down by gear " + gear, up.now(16), 60 - n / gear);
                Check.due("its VOTES", up.now(17), -(n % gear));
                Check.due("LEVEL up by gear " + gear, down.now(16), 5 + n / gear);
                Check.due("its VOTES", down.now(17), n % gear);
            }
        }
        HuntedEye both = Check.line("pulse 30,50;fore 1;back 0;gear 2;word 1");
        both.send(1);
        both.phase(1);
        both.send(1);
        Check.due("one for, one against", Check.tap(both, 0, 1), 0);
        Check.due("no move", Check.tap(both, 0, 0), 64);
        Check.holds(12, "With track 1 VOTES of LEVEL grow by KEPT times the sign of the ERROR.");
        HuntedEye off = Check.line("pulse 60;fore 1;back 0;track 0;level 30;word 1");
        off.send(9);
        Check.due("with track 0 LEVEL stays", off.now(16), 30);
        Check.due("and has no VOTES", off.now(17), 0);
    }

    private static void gearOfEachTap() {
        Check.holds(12, "VOTES whose size is gear or more then become 0, and the TAP, the LEVEL is one more by VOTES above 0, one less by those below 0");
        int[][] taps = {{64, 0, 0, 0, 0, 0}, {65, 0, 0, 0, 0, 0}, {65, 1, 0, -1, 0, 0}, {66, 1, 1, -1, -1, 0}, {66, 2, 1, -2, -1, -1}};
        int[][] votes = {{1, 0, 0, 0, 0, 0}, {0, 1, 0, -1, 0, 0}, {1, 0, 1, 0, -1, 0}, {0, 1, 0, -1, 0, -1}, {1, 0, 1, 0, -1, 0}};
        int[] zs = {1920, 1920, 1950, 2044, 2168};
        for (int phase = 0; phase < 4; phase++) {
            HuntedEye x = Check.line("pulse 30,30,30,30;fore 3;back 3;gear 2;level 40;word 1");
            if (phase > 0) x.phase(phase);
            for (int i = 0; i < 5; i++) {
                x.send(1);
                Check.due("Z at PHASE " + phase, x.log(0, 1), zs[i]);
                for (int tap = 0; tap < 6; tap++) {
                    Check.due("TAP " + tap + " at PHASE " + phase, Check.tap(x, tap, 0), taps[i][tap]);
                    Check.due("VOTES of " + tap + " at PHASE " + phase, Check.tap(x, tap, 1), votes[i][tap]);
                }
            }
            // TAPS were 66, 1, 1, -1, -1, 0 with the latest one
            Check.due("UNROLLED at PHASE " + phase, x.unrolled(0), 2040 - 128);
            Check.due("UNROLLED at PHASE " + phase, x.unrolled(1), 2040);
        }
    }

    private static void tapBounds() {
        Check.holds(12, "not beyond -255 .. 255, LEVEL not beyond 1 .. 99");
        HuntedEye up = Check.line("pulse 5;fore 1;back 0;level 99;word 1;gear 2");
        up.set(0, 254);
        int[] tap = {254, 255, 255, 255, 255};
        for (int i = 0; i < 5; i++) {
            up.send(1);
            Check.due("TAP", Check.tap(up, 0, 0), tap[i]);
            Check.due("VOTES become 0 all the same", Check.tap(up, 0, 1), (i + 1) % 2);
        }
        HuntedEye down = Check.line("pulse 5;fore 1;back 0;level 99;word 0;train 99;gear 2");
        // TRAINED by -1: Z is -5 times the TAP, far above -99 times 64
        down.set(0, -254);
        for (int i = 0; i < 4; i++) down.send(1);
        Check.due("TAPS go up by these, too", Check.tap(down, 0, 0), -252);
        HuntedEye least = Check.line("pulse -5;fore 1;back 0;level 99;word 1;train 99;gear 2");
        least.set(0, -254);
        int[] less = {-254, -255, -255, -255, -255};
        for (int i = 0; i < 5; i++) {
            least.send(1);
            Check.due("TAP", Check.tap(least, 0, 0), less[i]);
            Check.due("VOTES become 0 all the same", Check.tap(least, 0, 1), -((i + 1) % 2));
        }
        HuntedEye back = Check.line("pulse 60;fore 1;back 1;level 1;word 1;gear 1");
        back.set(1, 254);
        back.set(0, 255);
        back.send(1);
        Check.due("no KEPT yet", Check.tap(back, 1, 0), 254);
        // Z below 0: the DECISION is -1, the ERROR below 0, KEPT one ago 1: less
        back.set(0, 1);
        back.send(1);
        Check.due("a BACK TAP", Check.tap(back, 1, 0), 253);
    }

    private static void levelBounds() {
        Check.holds(12, "LEVEL not beyond 1 .. 99");
        HuntedEye up = Check.line("pulse 60;fore 1;back 0;level 98;word 1;track 1;gear 2");
        up.set(0, 255);
        int[] level = {98, 99, 99, 99, 99};
        for (int i = 0; i < 5; i++) {
            up.send(1);
            Check.due("LEVEL", up.now(16), level[i]);
            Check.due("its VOTES become 0 all the same", up.now(17), (i + 1) % 2);
        }
        HuntedEye down = Check.line("pulse 0;fore 1;back 0;level 2;word 1;track 1;gear 2;floor 0");
        int[] less = {2, 1, 1, 1, 1};
        for (int i = 0; i < 5; i++) {
            down.send(1);
            Check.due("LEVEL", down.now(16), less[i]);
            Check.due("its VOTES become 0 all the same", down.now(17), -((i + 1) % 2));
        }
    }

    private static void lock() {
        Check.holds(12, "With lock above 0 VOTES of PHASE grow by the sign of the ERROR times KEPT one SYMBOL ago");
        HuntedEye off = Check.line(HUNT + "0");
        off.send(1);
        off.phase(1);
        off.send(1);
        Check.due("without lock no VOTES", off.now(18), 0);
        Check.due("and no move", off.now(1), 1);
        Check.holds(12, "less the sign of the ERROR one SYMBOL ago (whether it LEARNT then or not) times KEPT (ahead of the first 0)");
        HuntedEye x = Check.line(HUNT + "9");
        x.send(1);
        Check.due("the first has none ahead of it", x.now(18), 0);
        HuntedEye one = Check.line(HUNT + "1");
        one.phase(1);
        one.send(1);
        Check.due("the first moves nothing, even by lock 1", one.now(1), 1);
        x.send(1);
        Check.due("-1 less -1", x.now(18), 0);
        int[] votes = {2, 0, 2, 0};
        for (int i = 0; i < 4; i++) {
            x.phase(1 - x.now(1));
            x.send(1);
            Check.due("VOTES of PHASE", x.now(18), votes[i]);
        }
        Check.holds(12, "is their size lock or more, they become 0, and PHASE is one more by those above 0, one less by those below 0");
        for (int lock = 1; lock <= 3; lock++) {
            HuntedEye up = Check.line(HUNT + lock);
            up.send(1);
            up.phase(1);
            up.send(1);
            Check.due("PHASE by 2 and lock " + lock, up.now(1), lock <= 2 ? 2 : 1);
            Check.due("VOTES", up.now(18), lock <= 2 ? 0 : 2);
            HuntedEye down = Check.line(HUNT + lock);
            down.phase(3);
            down.send(1);
            down.phase(2);
            down.send(1);
            Check.due("PHASE by -2 and lock " + lock, down.now(1), lock <= 2 ? 1 : 2);
            Check.due("VOTES", down.now(18), lock <= 2 ? 0 : -2);
        }
    }

    private static void votesByKept() {
        Check.holds(12, "With track 1 VOTES of LEVEL grow by KEPT times the sign of the ERROR.");
        String line = "pulse -20;fore 1;back 0;word 1,0;level 30;track 1;lock 9;gear 9";
        // all are WRONG; KEPT is the DECISION: -1, 1, the sign of the ERROR 1, -1
        HuntedEye x = Check.line(line);
        x.send(1);
        Check.due("VOTES of LEVEL by the DECISION", x.now(17), -1);
        x.send(1);
        Check.due("VOTES of LEVEL by the DECISION", x.now(17), -2);
        // KEPT is the TRUTH: 1, -1, the sign of the ERROR -1, 1
        HuntedEye y = Check.line(line + ";train 9");
        y.send(1);
        Check.due("VOTES of LEVEL by the TRUTH", y.now(17), -1);
        y.send(1);
        Check.due("VOTES of LEVEL by the TRUTH", y.now(17), -2);
        Check.holds(12, "With lock above 0 VOTES of PHASE grow by the sign of the ERROR times KEPT one SYMBOL ago, less the sign of the ERROR one SYMBOL ago (whether it LEARNT then or not) times KEPT");
        Check.due("VOTES of PHASE by the DECISION: -1 * -1 - 1 * 1", x.now(18), 0);
        Check.due("VOTES of PHASE by the TRUTH: 1 * 1 - -1 * -1", y.now(18), 0);
        x.change(1, 1);
        // TRAINED: KEPT 1, the sign of the ERROR -1: -1 * 1 - -1 * 1
        x.send(1);
        Check.due("VOTES of PHASE, TRAINED behind the DECISION", x.now(18), 0);
    }

    private static void lockAfterOnesNotLearnt() {
        Check.holds(12, "whether it LEARNT then or not");
        HuntedEye held = Check.line(HUNT + "9");
        held.hold(1);
        held.send(1);
        held.hold(0);
        held.phase(1);
        held.send(1);
        Check.due("behind one that was HELD", held.now(18), 2);
        HuntedEye missing = Check.line(HUNT + "9");
        missing.drop();
        missing.send(1);
        missing.phase(1);
        missing.send(1);
        Check.due("behind one that was MISSING", missing.now(18), 2);
        Check.holds(12, "PHASE, HELD, a TAP (its VOTES become 0), NOISE, TRAIN are set");
        missing.phase(0);
        Check.due("VOTES of PHASE stay", missing.now(18), 2);
        missing.hold(1);
        missing.send(5);
        Check.due("HELD: none grow", missing.now(18), 2);
    }

    private static void phaseBounds() {
        Check.holds(12, "not beyond 0 .. 3");
        HuntedEye up = Check.line(HUNT + "2");
        up.phase(2);
        up.send(1);
        up.phase(3);
        up.send(1);
        Check.due("PHASE", up.now(1), 3);
        Check.due("VOTES become 0 all the same", up.now(18), 0);
        HuntedEye down = Check.line(HUNT + "2");
        down.phase(1);
        down.send(1);
        down.phase(0);
        down.send(1);
        Check.due("PHASE", down.now(1), 0);
        Check.due("VOTES become 0 all the same", down.now(18), 0);
    }

    /** Sends SYMBOLS that are WRONG (w) or right (r). */
    private static void judge(HuntedEye x, String signs) {
        for (char sign : signs.toCharArray()) {
            x.set(0, sign == 'w' ? -255 : 255);
            Check.due("WRONG or not", x.send(1), sign == 'w' ? 1 : 0);
        }
    }

    private static void runs() {
        String[] judged = {"", "rrr", "w", "ww", "wr", "wrw", "wrr", "wrrw", "wrwrr", "wrrwwrwrr", "wwwrrwrr", "rrwrrr"};
        int[] ended = {0, 0, 0, 0, 0, 0, 1, 1, 1, 2, 2, 1};
        int[] longest = {0, 0, 0, 0, 0, 0, 1, 1, 3, 4, 3, 1};
        int[] open = {0, 0, 1, 2, 2, 3, 0, 1, 0, 0, 0, 0};
        int[] right = {0, 0, 0, 0, 1, 0, 0, 0, 0, 0, 0, 0};
        for (int i = 0; i < judged.length; i++) {
            HuntedEye x = Check.line("pulse 20;fore 1;back 2;word 1");
            x.hold(1);
            judge(x, judged[i]);
            Check.holds(9, "A RUN begins with a WRONG SYMBOL, if none is open");
            Check.due("ended or open " + judged[i], x.now(12) + (x.now(14) > 0 ? 1 : 0), ended[i] + (open[i] > 0 ? 1 : 0));
            Check.holds(9, "12 RUNS that ended, 13 the longest of these (0)");
            Check.due("ended " + judged[i], x.now(12), ended[i]);
            Check.holds(9, "its length is from its first WRONG one to its last one");
            Check.due("longest " + judged[i], x.now(13), longest[i]);
            Check.holds(9, "14 how long the open one is by now, to the latest SYMBOL (0: none)");
            Check.due("open " + judged[i], x.now(14), open[i]);
            Check.holds(9, "15 how many in a row not WRONG in it");
            Check.due("right " + judged[i], x.now(15), right[i]);
        }
    }

    private static void runsOfBackTaps() {
        Check.holds(9, "it ends with as many in a row that are not WRONG as there are BACK TAPS (1 with none)");
        for (int back = 0; back <= 3; back++) {
            HuntedEye x = Check.line("pulse 20;fore 1;word 1;back " + back);
            x.hold(1);
            judge(x, "wwwww");
            for (int i = 1; i <= 4; i++) {
                judge(x, "r");
                boolean over = i >= Math.max(back, 1);
                Check.due("ended, BACK TAPS " + back, x.now(12), over ? 1 : 0);
                Check.due("the longest", x.now(13), over ? 5 : 0);
                Check.due("the open one", x.now(14), over ? 0 : 5 + i);
                Check.due("not WRONG in it", x.now(15), over ? 0 : i);
            }
            Check.due("WRONG ever", x.now(10), 5);
        }
    }

    private static void sendRefused() {
        Check.holds(12, "n SYMBOLS (1 .. 60) are SENT: how many of them were WRONG.");
        HuntedEye x = Check.line("pulse -20;fore 1;back 0;word 1;delay 2");
        x.hold(1);
        Check.due("one", x.send(1), 0);
        Check.due("sixty", x.send(60), 59);
        Check.due("T", x.now(0), 61);
        Check.holds(12, "NONE: no LINE (STATUS 0), n (1), beyond 9,999 (3).");
        HuntedEye y = new HuntedEye();
        Check.due("no LINE", y.send(1), NONE);
        Check.due("no LINE is ahead of n", y.send(0), NONE);
        Check.due("STATUS 0", y.status(0), 2);
        Check.retell(y, STILL);
        int refused = 0;
        for (int n : new int[] {0, -1, 61, Integer.MIN_VALUE, Integer.MAX_VALUE}) {
            Check.due("n " + n, y.send(n), NONE);
            refused++;
            Check.due("STATUS 1", y.status(1), refused);
        }
        Check.due("none SENT", y.now(0), 0);
        Check.due("no ACT", y.count(6), 0);
        Check.due("no other STATUS", y.status(2) + y.status(3), 0);
    }

    private static void lastT() {
        Check.holds(12, "T is one more, 9,999 at most: no SYMBOL then.");
        HuntedEye x = Check.line(STILL);
        Check.sendTo(x, 9940);
        Check.due("one too many", x.send(60), NONE);
        Check.due("STATUS 3", x.status(3), 1);
        Check.due("none SENT", x.now(0), 9940);
        Check.due("up to the last", x.send(59), 0);
        Check.due("T", x.now(0), 9999);
        Check.due("no SYMBOL then", x.send(1), NONE);
        Check.due("STATUS 3", x.status(3), 2);
        Check.due("of several the first: n", x.send(61), NONE);
        Check.due("STATUS 1", x.status(1), 1);
        Check.due("STATUS 3", x.status(3), 2);
        Check.due("DROPPED it can be", x.drop(), 9999);
        x.undo();
        x.undo();
        Check.due("UNDONE it can go on", x.send(1), 0);
        Check.due("T", x.now(0), 9941);
    }

    private static void log() {
        Check.holds(23, "HIDDEN: no such ones.");
        Check.due("no LINE", new HuntedEye().log(0, 0), HIDDEN);
        HuntedEye x = Check.line("pulse 20;fore 1;back 0;word 1;gear 9;floor 0");
        x.hold(1);
        Check.due("no SYMBOL yet", x.log(0, 0), HIDDEN);
        for (int t = 0; t < 62; t++) {
            x.set(0, t);
            x.send(1);
            Check.due("how long", x.count(5), Math.min(t + 1, 60));
        }
        Check.holds(23, "the latest 60");
        for (int i = 0; i < 60; i++) Check.due("Z of " + i, x.log(i, 1), 20 * (61 - i));
        Check.due("no 61st", x.log(60, 1), HIDDEN);
        Check.holds(23, "The LOG, the latest (i 0), the one ahead of it (1)");
        Check.due("the latest", x.log(0, 1), 20 * 61);
        Check.due("the one ahead", x.log(1, 1), 20 * 60);
        Check.holds(23, "0 the SAMPLE, 1 Z, 2 what was added up. HIDDEN: no such ones.");
        Check.due("none behind the latest", x.log(-1, 0), HIDDEN);
        Check.due("no such what", x.log(0, 3), HIDDEN);
        Check.due("no such what", x.log(0, -1), HIDDEN);
        for (int far : FAR) {
            Check.due("far", x.log(far, 0), HIDDEN);
            Check.due("far", x.log(0, far), HIDDEN);
        }
        Check.holds(23, "of each SYMBOL the SAMPLE (HIDDEN for MISSING)");
        x.drop();
        x.send(1);
        Check.due("MISSING", x.log(0, 0), HIDDEN);
        Check.due("its Z", x.log(0, 1), 0);
        x.send(1);
        Check.due("MISSING one ago", x.log(1, 0), HIDDEN);
    }

    private static void logMarks() {
        Check.holds(23, "1 bit SENT, 2 DECISION 1, 4 WRONG, 8 DARK (by then), 16 it LEARNT, 32 KEPT by TRAINING");
        HuntedEye none = Check.line("pulse 20;fore 1;back 0;word 0");
        none.hold(1);
        none.send(1);
        Check.due("nothing", none.log(0, 2), 0);
        HuntedEye x = Check.line("pulse 0;fore 1;back 0;word 0;floor 1;train 2");
        int[] marks = {2 + 4 + 16 + 32, 2 + 4 + 16 + 32, 2 + 4 + 16, 2 + 4 + 8, 2 + 4 + 8};
        x.send(5);
        for (int i = 0; i < 5; i++) Check.due("SYMBOL " + i, x.log(4 - i, 2), marks[i]);
        HuntedEye light = Check.line("pulse 20,0;fore 1;back 0;word 1;floor 1");
        hear(light, "qqqqllll");
        int[] then = {1 + 2 + 16, 1 + 2 + 16, 1 + 2 + 16, 1 + 2 + 8, 1 + 2 + 8, 1 + 2 + 8, 1 + 2 + 8, 1 + 2 + 16};
        for (int i = 0; i < 8; i++) Check.due("SYMBOL " + i, light.log(7 - i, 2), then[i]);
        HuntedEye late = Check.line("pulse -20;fore 1;back 0;word 1;delay 1");
        late.send(2);
        Check.due("without a TRUTH it is not WRONG", late.log(1, 2), 1 + 16);
        Check.due("then it is", late.log(0, 2), 1 + 4 + 16);
    }
}
