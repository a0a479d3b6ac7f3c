/** Promises 8 to 10, 12 and 23: what a SYMBOL does, and what is told of it. */
public final class SymbolsTest {
    /** Its ERROR is 0: nothing moves. */
    private static final String STILL = "pulse 20;fore 1;back 0;level 20;word 1";

    public static void main(String[] args) {
        promise8Tap();
        promise9Register();
        promise9Dark();
        promise9FloorItself();
        promise9Runs();
        promise9RunWithoutBackTaps();
        promise9AllAsNow();
        promise9Ever();
        promise9Votes();
        promise9NoSuch();
        promise10Ago();
        promise12Bits();
        promise12Samples();
        promise12Noise();
        promise12Draws();
        promise12Missing();
        promise12BackTaps();
        promise12Delay();
        promise12Training();
        promise12VotesOfTaps();
        promise12Votes();
        promise12Bounds();
        promise12Level();
        promise12Lock();
        promise12Refused();
        promise12LastT();
        promise23Log();
        Check.finish();
    }

    private static void promise8Tap() {
        Check.holds(8, "A TAP (0), its VOTES (1), as now.");
        HuntedEye x = Check.line("pulse 30;word 1;gear 3;fore 2;back 1");
        int[] first = {64, 0, 0};
        for (int i = 0; i < 3; i++) {
            Check.due("8 tap " + i, Check.tap(x, i, 0), first[i]);
            Check.due("8 votes " + i, Check.tap(x, i, 1), 0);
        }
        x.send(2);
        Check.due("8 votes of tap 0", Check.tap(x, 0, 1), 2);
        Check.due("8 votes of tap 1: no sample ahead of the first", Check.tap(x, 1, 1), 1);
        Check.due("8 votes of the back tap", Check.tap(x, 2, 1), -1);
        x.send(1);
        Check.due("8 moved", Check.tap(x, 0, 0), 65);
        Check.due("8 votes gone", Check.tap(x, 0, 1), 0);
        int none = HuntedEye.HIDDEN;
        Check.due("8 no such tap", Check.tap(x, 3, 0), none);
        Check.due("8 no such tap", Check.tap(x, -1, 0), none);
        Check.due("8 no such what", Check.tap(x, 0, 2), none);
        Check.due("8 no such what", Check.tap(x, 0, -1), none);
        Check.due("8 no line", Check.tap(new HuntedEye(), 0, 0), none);
    }

    private static void promise9Register() {
        Check.holds(9, "else the lowest bit of the REGISTER, which then is shifted right by one, its bit 6 being the exclusive or of its bits 0 and 1 as they were");
        HuntedEye x = Check.line("pulse 20;fore 1;back 0;level 20;seed 5");
        int[] registers = {66, 97, 112, 56};
        int[] bits = {1, -1, 1, -1};
        Check.due("9 seed", x.now(6), 5);
        for (int i = 0; i < 4; i++) {
            x.send(1);
            Check.due("9 register", x.now(6), registers[i]);
            Check.due("9 sent", x.ago(0, 0), bits[i]);
        }
        HuntedEye y = Check.line("pulse 20;seed 5;word 0,1,1");
        int[] word = {-1, 1, 1, -1, 1};
        for (int i = 0; i < 5; i++) {
            y.send(1);
            Check.due("9 bit of the word", y.ago(0, 0), word[i]);
        }
        Check.due("9 a word leaves the register", y.now(6), 5);
    }

    private static void promise9Dark() {
        Check.holds(9, "(iv) A SAMPLE that is MISSING or smaller in size than floor is QUIET: with the fourth QUIET one in a row it is DARK, with the fourth in a row that is not QUIET no longer.");
        HuntedEye x = Check.line("pulse 3,10;floor 4;fore 1;back 0;word 1");
        x.send(3);
        Check.due("9 three quiet", x.now(8), 3);
        Check.due("9 not dark yet", x.now(3), 0);
        Check.due("9 learnt", x.now(11), 3);
        x.send(1);
        Check.due("9 dark", x.now(3), 1);
        Check.due("9 dark ones learn nothing", x.now(11), 3);
        x.send(1);
        Check.due("9 four at most", x.now(8), 4);
        Check.due("9 none loud", x.now(9), 0);
        x.phase(1);
        x.send(3);
        Check.due("9 three loud", x.now(9), 3);
        Check.due("9 still dark", x.now(3), 1);
        Check.due("9 none quiet", x.now(8), 0);
        Check.due("9 nothing learnt", x.now(11), 3);
        x.send(1);
        Check.due("9 no longer dark", x.now(3), 0);
        Check.due("9 learns by now", x.now(11), 4);
        x.send(3);
        Check.due("9 four at most", x.now(9), 4);
        x.drop();
        x.send(1);
        Check.due("9 a missing one is quiet", x.now(8), 1);
        Check.due("9 and learns nothing", x.now(11), 7);
        Check.due("9 in a row", x.now(9), 0);
    }

    private static void promise9FloorItself() {
        Check.holds(9, "A SAMPLE that is MISSING or smaller in size than floor is QUIET");
        HuntedEye x = Check.line("pulse -4;floor 4;fore 1;back 0;word 1");
        x.send(5);
        Check.due("9 not smaller than the floor", x.now(8), 0);
        HuntedEye y = Check.line("pulse 0;floor 0;fore 1;back 0;word 1");
        y.send(5);
        Check.due("9 nothing is smaller than 0", y.now(3), 0);
    }

    private static void promise9Runs() {
        Check.holds(9, "(vi) A RUN begins with a WRONG SYMBOL, if none is open; it ends with as many in a row that are not WRONG as there are BACK TAPS (1 with none); its length is from its first WRONG one to its last one.");
        HuntedEye x = Check.line("pulse 20;fore 1;back 2;level 20;word 1");
        x.hold(1);
        boolean[] wrong = {true, false, true, false, false, false, true, false, false};
        int[] open = {1, 2, 3, 4, 0, 0, 1, 2, 0};
        int[] right = {0, 1, 0, 1, 0, 0, 0, 1, 0};
        int[] ended = {0, 0, 0, 0, 1, 1, 1, 1, 2};
        int[] longest = {0, 0, 0, 0, 3, 3, 3, 3, 3};
        int ever = 0;
        for (int i = 0; i < wrong.length; i++) {
            x.set(0, wrong[i] ? -64 : 64);
            Check.due("9 wrong or not", x.send(1), wrong[i] ? 1 : 0);
            ever += wrong[i] ? 1 : 0;
            Check.due("9 wrong ever", x.now(10), ever);
            Check.due("9 runs " + i, x.now(12), ended[i]);
            Check.due("9 longest " + i, x.now(13), longest[i]);
            Check.due("9 open " + i, x.now(14), open[i]);
            Check.due("9 right in it " + i, x.now(15), right[i]);
        }
    }

    private static void promise9RunWithoutBackTaps() {
        Check.holds(9, "it ends with as many in a row that are not WRONG as there are BACK TAPS (1 with none)");
        HuntedEye x = Check.line(STILL);
        x.hold(1);
        x.set(0, -64);
        Check.due("9 all wrong", x.send(5), 5);
        Check.due("9 open", x.now(14), 5);
        x.set(0, 64);
        x.send(1);
        Check.due("9 one right ends it", x.now(12), 1);
        Check.due("9 its length", x.now(13), 5);
        Check.due("9 none open", x.now(14), 0);
    }

    private static void promise9AllAsNow() {
        Check.holds(9, "As now: 0 T, 1 PHASE, 2 HELD (1, 0), 3 DARK (1, 0), 4 NOISE, 5 TRAIN, 6 the REGISTER, 7 whether the next SAMPLE is DROPPED");
        HuntedEye x = Check.line("pulse 20,20,20,20;fore 1;back 0;level 20;seed 9;floor 30");
        x.send(5);
        x.phase(2);
        x.hold(1);
        x.change(0, 3);
        x.change(1, 44);
        x.drop();
        // the REGISTER: 9, 68, 34, 81, 104, 52
        int[] due = {5, 2, 1, 1, 3, 44, 52, 1};
        for (int what = 0; what < 8; what++) Check.due("9 now " + what, x.now(what), due[what]);
        x.send(1);
        x.hold(0);
        x.change(0, 1);
        x.phase(3);
        int[] then = {6, 3, 0, 1, 1, 43, 26, 0};
        for (int what = 0; what < 8; what++) Check.due("9 then " + what, x.now(what), then[what]);
    }

    private static void promise9Ever() {
        Check.holds(9, "10 WRONG ever, 11 LEARNT ever");
        HuntedEye x = Check.line("pulse -20;fore 1;back 0;level 20;word 1");
        int[][] due = {{3, 3}, {5, 3}, {5, 3}, {5, 4}, {5, 4}};
        for (int i = 0; i < 5; i++) {
            if (i == 1) x.hold(1);
            if (i == 2) x.set(0, -64);
            if (i == 3) x.hold(0);
            if (i == 4) x.drop();
            x.send(new int[] {3, 2, 4, 1, 1}[i]);
            Check.due("9 wrong ever " + i, x.now(10), due[i][0]);
            Check.due("9 learnt ever " + i, x.now(11), due[i][1]);
        }
    }

    private static void promise9Votes() {
        Check.holds(9, "16 LEVEL, 17 its VOTES, 18 VOTES of PHASE.");
        HuntedEye x = Check.line("pulse 40,30,20,10,20;word 1,1,0;level 50;gear 9;lock 9;track 1;fore 1;back 0");
        // SAMPLES 40, 60, -20: the sign of the ERROR is -1, 1, 1
        int[] level = {-1, 0, -1};
        int[] phase = {0, 2, 4};
        for (int i = 0; i < 3; i++) {
            x.send(1);
            Check.due("9 level " + i, x.now(16), 50);
            Check.due("9 its votes " + i, x.now(17), level[i]);
            Check.due("9 votes of phase " + i, x.now(18), phase[i]);
        }
        HuntedEye y = Check.line("pulse 40;word 1;level 50;track 1;fore 1;back 0");
        y.send(3);
        Check.due("9 the level moved", y.now(16), 47);
    }

    private static void promise9NoSuch() {
        Check.holds(9, "HIDDEN: no LINE, no such what.");
        HuntedEye x = Check.line(STILL);
        Check.due("9 no such what", x.now(19), HuntedEye.HIDDEN);
        Check.due("9 no such what", x.now(-1), HuntedEye.HIDDEN);
        Check.due("9 no line", new HuntedEye().now(0), HuntedEye.HIDDEN);
    }

    private static void promise10Ago() {
        Check.holds(10, "SENT (0: 1, -1), KEPT (1), the SAMPLE (2; 0 for MISSING) i SYMBOLS ago (0 the latest; up to 5, KEPT and the SAMPLE up to 2; 0 ahead of the first).");
        HuntedEye x = Check.line("pulse 20,0,0,0,5;word 1,1,0,0,0,1,0;fore 1;back 0;delay 1");
        x.send(2);
        int[] two = {1, 1, 0, 0, 0, 0};
        for (int i = 0; i < 6; i++) Check.due("10 sent " + i, x.ago(0, i), two[i]);
        x.send(5);
        int[] sent = {-1, 1, -1, -1, -1, 1};
        for (int i = 0; i < 6; i++) Check.due("10 sent " + i, x.ago(0, i), sent[i]);
        int[] kept = {-1, 1, -1};
        int[] samples = {-15, 15, -25};
        for (int i = 0; i < 3; i++) {
            Check.due("10 kept " + i, x.ago(1, i), kept[i]);
            Check.due("10 sample " + i, x.ago(2, i), samples[i]);
        }
        x.drop();
        x.send(1);
        Check.due("10 a missing sample", x.ago(2, 0), 0);
        Check.due("10 decided by 0", x.ago(1, 0), 1);
        int none = HuntedEye.HIDDEN;
        Check.due("10 too long ago", x.ago(0, 6), none);
        Check.due("10 too long ago", x.ago(1, 3), none);
        Check.due("10 too long ago", x.ago(2, 3), none);
        Check.due("10 to come", x.ago(0, -1), none);
        Check.due("10 to come", x.ago(1, -1), none);
        Check.due("10 to come", x.ago(2, -1), none);
        Check.due("10 no such what", x.ago(3, 0), none);
        Check.due("10 no such what", x.ago(-1, 0), none);
    }

    private static void promise12Bits() {
        Check.holds(12, "A SYMBOL, one behind another: (i) the bit: with a word number T modulo how many it has; else the lowest bit of the REGISTER");
        HuntedEye x = Check.line(STILL.replace("word 1", "word 1,0,0"));
        x.send(7);
        int[] word = {1, 0, 0, 1, 0, 0, 1};
        for (int i = 0; i < 7; i++) Check.due("12 bit of the word " + i, x.log(6 - i, 2) & 1, word[i]);
        HuntedEye y = Check.line(STILL.replace("word 1", "seed 9"));
        y.send(6);
        // 9, 68, 34, 81, 104, 52
        int[] bits = {1, 0, 0, 1, 0, 0};
        for (int i = 0; i < 6; i++) Check.due("12 bit of the register " + i, y.log(5 - i, 2) & 1, bits[i]);
        Check.holds(12, "SENT is 1 for a bit 1, -1 for 0.");
        for (int i = 0; i < 6; i++) {
            Check.due("12 sent by the register " + i, y.ago(0, 5 - i), 2 * bits[i] - 1);
            Check.due("12 sent by the word " + i, x.ago(0, 5 - i), 2 * word[i + 1] - 1);
        }
    }

    private static void promise12Samples() {
        Check.holds(12, "(ii) the SAMPLE: of all k from 0 with 4 k and PHASE below how many numbers pulse has: number 4 k and PHASE of pulse (from 0) times SENT k SYMBOLS ago (ahead of the first SYMBOL 0), added up");
        String pulse = "pulse 1,2,3,4,5,6,7,8,9,10,11,12,13,14,15,16;fore 1;back 0;floor 0;";
        HuntedEye x = Check.line(pulse + "word 1");
        x.phase(2);
        int[] due = {3, 10, 21, 36, 36};
        for (int i = 0; i < 5; i++) {
            x.send(1);
            Check.due("12 sample at phase 2", x.log(0, 0), due[i]);
        }
        HuntedEye y = Check.line(pulse + "word 1,0");
        int[] turns = {1, 4, 5, 8, -8};
        for (int i = 0; i < 5; i++) {
            y.send(1);
            Check.due("12 sample at phase 0", y.log(0, 0), turns[i]);
        }
        HuntedEye z = Check.line("pulse 9;fore 1;back 0");
        z.phase(1);
        z.send(1);
        Check.due("12 behind the pulse", z.log(0, 0), 0);
    }

    private static int draw(long x, int noise) {
        return (int) ((x >>> 33) % (2 * noise + 1)) - noise;
    }

    private static long next(long x) {
        return x * 6364136223846793005L + 1442695040888963407L;
    }

    private static void promise12Noise() {
        Check.holds(12, "added up, and by NOISE above 0 a draw of twice NOISE and 1, less NOISE. By a DROP ahead it is MISSING (the draw is made).");
        HuntedEye x = Check.line("pulse 20;fore 1;back 0;word 1;noise 4");
        long at = 0;
        for (int i = 0; i < 20; i++) {
            x.send(1);
            at = next(at);
            Check.due("12 noise", x.log(0, 0), 20 + draw(at, 4));
        }
        x.drop();
        x.send(1);
        at = next(at);
        Check.due("12 missing", x.log(0, 0), HuntedEye.HIDDEN);
        x.send(1);
        at = next(at);
        Check.due("12 the draw was made", x.log(0, 0), 20 + draw(at, 4));
        x.change(0, 0);
        x.send(3);
        Check.due("12 no noise", x.log(0, 0), 20);
        x.change(0, 1);
        x.send(1);
        at = next(at);
        Check.due("12 no draw without noise", x.log(0, 0), 20 + draw(at, 1));
    }

    private static void promise12Draws() {
        Check.holds(12, "y, x become that times 6364136223846793005 and 1442695040888963407 (64 bits, going round); a draw of j: (that shifted right by 33, without sign) modulo j");
        // shifted right by 33, x is 167951807, 218396424, 1299921937, 861605236, 823830125, 1204436891
        int[][] due = {{1, -1, 0, 0, 1, 1}, {0, 2, 0, -1, -2, -1}, {-1, -2, 3, -1, 3, -3}, {4, -1, 3, -3, 1, -2}};
        for (int noise = 1; noise <= 4; noise++) {
            HuntedEye x = Check.line("pulse 20;fore 1;back 0;word 1;noise " + noise);
            x.send(6);
            for (int i = 0; i < 6; i++) Check.due("12 draw " + i + " by noise " + noise, x.log(5 - i, 0) - 20, due[noise - 1][i]);
        }
        HuntedEye y = Check.line("pulse 20;fore 1;back 0;word 1;noise 4");
        y.dice(-1L);
        y.send(6);
        // 1574552488, 1490332343, 1207502677, 901017602, 2086932864, 1334033987
        int[] behind = {0, 1, -3, 4, -1, 1};
        for (int i = 0; i < 6; i++) Check.due("12 draw " + i + " behind -1", y.log(5 - i, 0) - 20, behind[i]);
    }

    private static void promise12Missing() {
        Check.holds(12, "(iii) Z: each FORE TAP i times the SAMPLE i SYMBOLS ago (MISSING ones, those ahead of the first 0)");
        HuntedEye x = Check.line("pulse 20;fore 2;back 0;word 1;level 20");
        x.set(1, 32);
        x.send(1);
        Check.due("12 nothing ahead of the first", x.log(0, 1), 1280);
        x.drop();
        x.send(1);
        Check.due("12 a missing one weighs 0", x.log(0, 1), 640);
        Check.due("12 its marks: bit, decision", x.log(0, 2), 3);
        Check.due("12 dropped once", x.now(7), 0);
        x.send(1);
        Check.due("12 missing one symbol ago", x.log(0, 1), 1280);
        // its ERROR is 0, so nothing was voted
        Check.due("12 taps as set", Check.tap(x, 1, 0), 32);
    }

    private static void promise12BackTaps() {
        Check.holds(12, "less 64 times each BACK TAP j (from 1) times KEPT j SYMBOLS ago (ahead of the first 0)");
        HuntedEye x = Check.line("pulse 20;fore 1;back 3;word 1,0,0,1,1,0");
        x.hold(1);
        x.set(1, 1);
        x.set(2, 2);
        x.set(3, 4);
        // SENT 1 -1 -1 1: each SAMPLE 20 by 64, less 64, 128, 256 times the three KEPT ahead
        int[] z = {1280, -1280 - 64, -1280 + 64 - 128, 1280 + 64 + 128 - 256};
        for (int i = 0; i < 4; i++) {
            Check.due("12 none wrong", x.send(1), 0);
            Check.due("12 Z with what was kept", x.log(0, 1), z[i]);
        }
    }

    private static void promise12Delay() {
        Check.holds(12, "The TRUTH is SENT delay SYMBOLS ago (none ahead of the first one).");
        HuntedEye x = Check.line("pulse -20;delay 2;word 1;fore 1;back 0;train 2");
        Check.due("12 no truth yet", x.send(2), 0);
        Check.due("12 kept the decision", x.ago(1, 0), -1);
        Check.due("12 train is less all the same", x.now(5), 0);
        Check.due("12 the first truth", x.send(1), 1);
        HuntedEye y = Check.line("pulse 0,0,0,0,30;delay 1;word 1,1,0,1,0,0;fore 1;back 0");
        Check.due("12 truth one symbol ago", y.send(60), 0);
    }

    private static void promise12Training() {
        Check.holds(12, "KEPT is the TRUTH, if TRAIN is above 0 and there is one, else the DECISION; TRAIN above 0 is one less.");
        HuntedEye x = Check.line("pulse -20;word 1;train 1;fore 1;back 1;level 20");
        Check.due("12 wrong", x.send(1), 1);
        Check.due("12 bit, wrong, learnt, trained", x.log(0, 2), 1 + 4 + 16 + 32);
        Check.due("12 kept the truth", x.ago(1, 0), 1);
        Check.due("12 the tap learns by the truth", Check.tap(x, 0, 0), 63);
        Check.due("12 train", x.now(5), 0);
        Check.due("12 wrong", x.send(1), 1);
        Check.due("12 bit, wrong, learnt", x.log(0, 2), 1 + 4 + 16);
        Check.due("12 kept the decision", x.ago(1, 0), -1);
        Check.due("12 train stays 0", x.now(5), 0);
    }

    private static void promise12VotesOfTaps() {
        Check.holds(12, "(v) It LEARNS, if it is not HELD, not DARK (by now), and the SAMPLE is not MISSING: VOTES of each FORE TAP i grow by the sign of the SAMPLE i SYMBOLS ago (0 for none, for MISSING, for 0), changed about, times the sign of the ERROR; of each BACK TAP j by KEPT j SYMBOLS ago (0 for none) times the sign of the ERROR.");
        int[][] votes = {{1, 0, 0, 0, 0, 0}, {2, -1, 0, 1, 0, 0}, {3, 0, -1, 0, 1, 0}, {4, -1, -2, 1, 2, -1}, {5, 0, -3, 0, 3, 0}};
        HuntedEye less = Check.line("pulse 30;fore 3;back 3;gear 9;level 40;word 1,0,0,1,1");
        HuntedEye more = Check.line("pulse 30;fore 3;back 3;gear 9;level 1;word 1,0,0,1,1");
        for (int i = 0; i < 5; i++) {
            less.send(1);
            more.send(1);
            for (int tap = 0; tap < 6; tap++) {
                Check.due("12 Z is too small: votes of " + tap, Check.tap(less, tap, 1), votes[i][tap]);
                Check.due("12 Z is too great: votes of " + tap, Check.tap(more, tap, 1), -votes[i][tap]);
            }
        }
    }

    private static void promise12Votes() {
        Check.holds(12, "VOTES whose size is gear or more then become 0, and the TAP, the LEVEL is one more by VOTES above 0, one less by those below 0");
        HuntedEye x = Check.line("pulse 30;word 1,0;gear 2;fore 1;back 1");
        // Z 1920, -1920: below 2560 in size; the ERROR's sign is -KEPT
        x.send(1);
        Check.due("12 vote", Check.tap(x, 0, 1), 1);
        Check.due("12 none kept ahead", Check.tap(x, 1, 1), 0);
        x.send(1);
        Check.due("12 two votes move it", Check.tap(x, 0, 0), 65);
        Check.due("12 and are gone", Check.tap(x, 0, 1), 0);
        Check.due("12 kept times the error", Check.tap(x, 1, 1), 1);
        x.send(1);
        Check.due("12 the back tap moves", Check.tap(x, 1, 0), 1);
        x.hold(1);
        x.send(7);
        Check.due("12 held", Check.tap(x, 1, 0), 1);
        Check.due("12 learnt ever", x.now(11), 3);
        HuntedEye y = Check.line("pulse 60;word 1;level 1;fore 1;back 0");
        y.send(2);
        Check.due("12 too great a Z", Check.tap(y, 0, 0), 62);
    }

    private static void promise12Bounds() {
        Check.holds(12, "not beyond -255 .. 255, LEVEL not beyond 1 .. 99");
        HuntedEye x = Check.line("pulse 5;word 1;level 99;fore 1;back 0;gear 2");
        x.set(0, 254);
        x.send(2);
        Check.due("12 up to 255", Check.tap(x, 0, 0), 255);
        x.send(3);
        Check.due("12 not beyond 255", Check.tap(x, 0, 0), 255);
        Check.due("12 votes are gone all the same", Check.tap(x, 0, 1), 1);
        HuntedEye y = Check.line("pulse -5;word 1;level 99;fore 1;back 0;train 99");
        y.set(0, -254);
        y.send(4);
        Check.due("12 not beyond -255", Check.tap(y, 0, 0), -255);
        HuntedEye up = Check.line("pulse 60;word 1;level 98;fore 1;back 0;track 1");
        up.set(0, 255);
        up.send(3);
        Check.due("12 level not beyond 99", up.now(16), 99);
        HuntedEye down = Check.line("pulse 0;word 1;level 2;fore 1;back 0;track 1;floor 0");
        down.send(3);
        Check.due("12 level not below 1", down.now(16), 1);
    }

    private static void promise12Level() {
        Check.holds(12, "With track 1 VOTES of LEVEL grow by KEPT times the sign of the ERROR.");
        HuntedEye x = Check.line("pulse 30;word 0;level 20;fore 1;back 0;track 1;gear 3");
        x.send(2);
        // Z -1920, 64 times 20 times -1 is -1280: the ERROR is below 0, times KEPT above
        Check.due("12 votes of level", x.now(17), 2);
        x.send(1);
        Check.due("12 level", x.now(16), 21);
        Check.due("12 its votes", x.now(17), 0);
        HuntedEye y = Check.line("pulse 30;word 0;level 20;fore 1;back 0");
        y.send(9);
        Check.due("12 not tracked", y.now(16), 20);
    }

    private static void promise12Lock() {
        Check.holds(12, "With lock above 0 VOTES of PHASE grow by the sign of the ERROR times KEPT one SYMBOL ago, less the sign of the ERROR one SYMBOL ago");
        HuntedEye x = Check.line("pulse 40,30,20,10,20;word 1,1,0;level 50;gear 9;lock 3;fore 1;back 0");
        // ERRORS: 40-50 below 0; 60-50 above 0: 1 * 1 - -1 * 1 = 2
        x.send(2);
        Check.due("12 votes of phase", x.now(18), 2);
        Check.due("12 phase", x.now(1), 0);
        // SAMPLE -40+20 = -20, KEPT -1, ERROR -20+50 above 0: 1 * 1 - 1 * -1 = 2 more
        x.send(1);
        Check.due("12 phase moved", x.now(1), 1);
        Check.due("12 votes gone", x.now(18), 0);
        x.phase(3);
        x.hold(1);
        x.send(9);
        Check.due("12 held", x.now(18), 0);
        Check.due("12 held", x.now(1), 3);
    }

    private static void promise12Refused() {
        Check.holds(12, "NONE: no LINE (STATUS 0), n (1), beyond 9,999 (3).");
        HuntedEye x = new HuntedEye();
        Check.due("12 no line", x.send(0), -1);
        Check.due("12 no line is first", x.status(0), 1);
        Check.retell(x, STILL);
        Check.due("12 too few", x.send(0), -1);
        Check.due("12 too many", x.send(61), -1);
        Check.due("12 out of bounds", x.status(1), 2);
        Check.due("12 nothing sent", x.now(0), 0);
        Check.due("12 no act", x.count(6), 0);
        Check.due("12 most", x.send(60), 0);
        Check.due("12 T", x.now(0), 60);
        Check.due("12 one act", x.count(6), 1);
    }

    private static void promise12LastT() {
        Check.holds(12, "T is one more, 9,999 at most: no SYMBOL then.");
        HuntedEye x = Check.line(STILL);
        for (int i = 0; i < 166; i++) x.send(60);
        Check.due("12 T", x.now(0), 9960);
        Check.due("12 beyond", x.send(40), -1);
        Check.due("12 status", x.status(3), 1);
        Check.due("12 n first", x.send(61), -1);
        Check.due("12 status", x.status(1), 1);
        Check.due("12 T stays", x.now(0), 9960);
        Check.due("12 to the last", x.send(39), 0);
        Check.due("12 T", x.now(0), 9999);
        Check.due("12 beyond", x.send(1), -1);
        Check.due("12 status", x.status(3), 2);
        Check.due("12 no more acts", x.count(6), 40);
        Check.due("12 what comes goes on", x.coming(60, 8), 10059);
        Check.due("12 years", x.years(3, 5), 9999);
        Check.due("12 T stays", x.count(3), 9999);
        Check.due("12 the log stays", x.count(5), 60);
        x.undo();
        x.undo();
        x.undo();
        Check.due("12 years were three acts", x.count(6), 37);
        x.undo();
        Check.due("12 ahead of the last ones", x.now(0), 9960);
    }

    private static void promise23Log() {
        Check.holds(23, "The LOG: of each SYMBOL the SAMPLE (HIDDEN for MISSING), Z, and added up: 1 bit SENT, 2 DECISION 1, 4 WRONG, 8 DARK (by then), 16 it LEARNT, 32 KEPT by TRAINING; the latest 60.");
        HuntedEye x = Check.line("pulse 20,0,0,0,1,0,0,0,2;word 1;fore 1;back 0");
        Check.due("23 none", x.log(0, 0), HuntedEye.HIDDEN);
        x.send(3);
        int[] samples = {23, 21, 20};
        for (int i = 0; i < 3; i++) Check.due("23 sample " + i, x.log(i, 0), samples[i]);
        Check.due("23 Z", x.log(2, 1), 1280);
        Check.due("23 Z", x.log(1, 1), 21 * 65);
        Check.due("23 bit, decision, learnt", x.log(0, 2), 19);
        Check.due("23 only three", x.log(3, 0), HuntedEye.HIDDEN);
        Check.due("23 no such one", x.log(-1, 0), HuntedEye.HIDDEN);
        Check.due("23 no such what", x.log(0, 3), HuntedEye.HIDDEN);
        Check.due("23 no such what", x.log(0, -1), HuntedEye.HIDDEN);
        x.send(57);
        Check.due("23 sixty", x.count(5), 60);
        Check.due("23 the first one", x.log(59, 0), 20);
        x.send(1);
        Check.due("23 sixty", x.count(5), 60);
        Check.due("23 the second one", x.log(59, 0), 21);
        Check.due("23 no sixty-first", x.log(60, 0), HuntedEye.HIDDEN);
        x.send(60);
        x.undo();
        x.undo();
        Check.due("23 undone, too", x.log(59, 0), 20);
        HuntedEye y = Check.line("pulse 0;floor 1;word 0;fore 1;back 0");
        y.send(4);
        Check.due("23 decision 1, wrong, dark", y.log(0, 2), 2 + 4 + 8);
        Check.due("23 decision 1, wrong, learnt", y.log(1, 2), 2 + 4 + 16);
    }
}
