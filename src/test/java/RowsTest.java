/** Promises 27 to 35: what ROWS give, how wrong decisions spread, what the latest SYMBOL would have been. */
public final class RowsTest {
    private static final int HIDDEN = HuntedEye.HIDDEN;
    /** TRUTH is one SYMBOL ago; the pulse comes late. */
    private static final String LATE = "pulse 10,0,0,0,30;fore 2;back 1;delay 1";

    public static void main(String[] args) {
        promise27Eye();
        promise28Opening();
        promise29Weigh();
        promise29WeighFarBack();
        promise30Map();
        promise31Bears();
        promise32Burst();
        promise32BurstOfTwo();
        promise32BurstByEitherBit();
        promise33Bursts();
        promise34Unrolled();
        promise35Improved();
        Check.finish();
    }

    private static void promise27Eye() {
        Check.holds(27, "EYE of a PHASE and a v (-99 .. 99): of the 64 ROWS how many are right by 1 for Z of 64 v and more, else -1.");
        HuntedEye x = Check.line(LATE);
        Check.due("27 open", x.eye(0, 0), 64);
        Check.due("27 Z of 64 v itself is 1", x.eye(0, 20), 64);
        Check.due("27 above HIGH", x.eye(0, 21), 48);
        Check.due("27 above LOW", x.eye(0, -19), 64);
        Check.due("27 LOW itself", x.eye(0, -20), 48);
        Check.due("27 far", x.eye(0, 99), 32);
        Check.due("27 far", x.eye(0, -99), 32);
        x.set(1, 64);
        // Z is 640 s0 + 2560 s1 + 1920 s2: 0 for s0 1, s1 -1, s2 1
        Check.due("27 Z of 0 is 1", x.eye(0, 0), 56);
        Check.due("27 no pulse there", x.eye(1, 0), 32);
        Check.holds(27, "EYE. NONE: no LINE, no such PHASE, v out of bounds.");
        Check.due("27 no such phase", x.eye(4, 0), -1);
        Check.due("27 no such phase", x.eye(-1, 0), -1);
        Check.due("27 v", x.eye(0, 100), -1);
        Check.due("27 v", x.eye(0, -100), -1);
        Check.due("27 no line", new HuntedEye().eye(0, 0), -1);
        Check.due("27 nothing is changed", x.now(0), 0);
    }

    private static void opening(HuntedEye x, int phase, int high, int low) {
        Check.due("28 high", x.opening(phase, 0), high);
        Check.due("28 low", x.opening(phase, 1), low);
        Check.due("28 height", x.opening(phase, 2), high - low);
        Check.due("28 middle", x.opening(phase, 3), Math.floorDiv(high + low, 2));
    }

    private static void promise28Opening() {
        Check.holds(28, "OPENING of a PHASE: the HIGH: the least Z of ROWS with TRUTH 1, the LOW: the greatest of those with -1; HEIGHT: HIGH less LOW; the MIDDLE: half of HIGH and LOW together, rounded down.");
        HuntedEye x = Check.line(LATE);
        opening(x, 0, 1280, -1280);
        x.set(1, 64);
        opening(x, 0, 0, 0);
        x.set(2, 30);
        opening(x, 0, 1920, -1920);
        opening(x, 1, -1920, 1920);
        x.set(0, -64);
        // Z is -640 s0 - 1280 s1
        opening(x, 0, -1920, 1920);
        Check.holds(28, "OPENING: 0 HIGH, 1 LOW, 2 HEIGHT, 3 the MIDDLE. HIDDEN: no LINE, no such PHASE, what.");
        int[] due = {-1920, 1920, -3840, 0};
        for (int what = 0; what < 4; what++) Check.due("28 what " + what, x.opening(0, what), due[what]);
        Check.due("28 no such phase", x.opening(4, 0), HIDDEN);
        Check.due("28 no such phase", x.opening(-1, 0), HIDDEN);
        Check.due("28 no such what", x.opening(0, 4), HIDDEN);
        Check.due("28 no such what", x.opening(0, -1), HIDDEN);
        Check.due("28 no line", new HuntedEye().opening(0, 0), HIDDEN);
    }

    private static void promise29Weigh() {
        Check.holds(29, "ROWS of six bits: bit k is 1 for SENT 1, 0 for -1, k SYMBOLS ago. By a ROW, a PHASE and TAPS as they are, without noise and with each KEPT the TRUTH then, there is a Z and a TRUTH");
        HuntedEye x = Check.line(LATE);
        x.set(1, 64);
        x.set(2, 3);
        for (int row = 0; row < 64; row++) {
            int s0 = (row & 1) != 0 ? 1 : -1;
            int s1 = (row & 2) != 0 ? 1 : -1;
            int s2 = (row & 4) != 0 ? 1 : -1;
            Check.due("29 Z " + row, x.weigh(row, 0, 0), 640 * s0 + 2560 * s1 + (1920 - 192) * s2);
            Check.due("29 truth " + row, x.weigh(row, 0, 1), s1);
        }
        Check.due("29 no such row", x.weigh(64, 0, 0), HIDDEN);
        Check.due("29 no such row", x.weigh(-1, 0, 0), HIDDEN);
        Check.due("29 no such phase", x.weigh(0, 4, 0), HIDDEN);
        Check.due("29 no such phase", x.weigh(0, -1, 0), HIDDEN);
        Check.due("29 no such what", x.weigh(0, 0, 2), HIDDEN);
        Check.due("29 no such what", x.weigh(0, 0, -1), HIDDEN);
        Check.due("29 no line", new HuntedEye().weigh(0, 0, 0), HIDDEN);
    }

    private static void promise29WeighFarBack() {
        Check.holds(29, "there is a Z and a TRUTH (none is asked for beyond the sixth)");
        HuntedEye x = Check.line("pulse 1,2,3,4,5,6,7,8,9,10,11,12,13,14,15,16;fore 3;back 3;delay 2;noise 4");
        int[] taps = {7, -11, 13, 17, -19, 23};
        for (int i = 0; i < 6; i++) x.set(i, taps[i]);
        x.drop();
        for (int row = 0; row < 64; row++) {
            int[] s = new int[6];
            for (int k = 0; k < 6; k++) s[k] = (row >> k & 1) != 0 ? 1 : -1;
            int z = 0;
            for (int i = 0; i < 3; i++) z += taps[i] * (4 * s[i] + 8 * s[i + 1] + 12 * s[i + 2] + 16 * s[i + 3]);
            for (int j = 1; j <= 3; j++) z -= 64 * taps[2 + j] * s[2 + j];
            Check.due("29 Z " + row, x.weigh(row, 3, 0), z);
            Check.due("29 truth " + row, x.weigh(row, 3, 1), s[2]);
        }
    }

    private static void promise30Map() {
        Check.holds(30, "MAP: of all PHASES and all v from - LEVEL to LEVEL: how many have an EYE of 64; the PHASE with most (of several the lowest); by how many it is that.");
        HuntedEye x = Check.line("pulse 10,30,30,5;fore 1;back 0;level 20");
        // EYE is 64 for v from -9 to 10, from -20 (of -29) to 20 (of 30), the same, from -4 to 5
        Check.due("30 how many", x.map(0), 20 + 41 + 41 + 10);
        Check.due("30 the lowest of several", x.map(1), 1);
        Check.due("30 by how many", x.map(2), 41);
        Check.holds(30, "MAP: 0 how many, 1 the PHASE, 2 by how many. NONE: no LINE, no such what.");
        int[] due = {112, 1, 41};
        for (int what = 0; what < 3; what++) Check.due("30 what " + what, x.map(what), due[what]);
        x.set(0, -64);
        Check.due("30 none", x.map(0), 0);
        Check.due("30 none: the lowest", x.map(1), 0);
        Check.due("30 none", x.map(2), 0);
        Check.due("30 no such what", x.map(3), -1);
        Check.due("30 no such what", x.map(-1), -1);
        Check.due("30 no line", new HuntedEye().map(0), -1);
        HuntedEye tracked = Check.line("pulse 30;fore 1;back 0;level 5;track 1;word 1");
        tracked.send(2);
        // LEVEL is 7 by now, TAP 0 62: Z 1860
        Check.due("30 the level as now", tracked.map(0), 15);
    }

    private static void promise31Bears() {
        Check.holds(31, "BEARS, a PHASE: the greatest N (0 .. 99) so that with a noise of -N .. N, whatever it is, in each SAMPLE all 64 ROWS are right by 1 for Z of 0 and more (NONE: not even with 0).");
        HuntedEye x = Check.line(LATE);
        Check.due("31 below LOW's size", x.bears(0), 19);
        x.set(1, 64);
        Check.due("31 not even with 0", x.bears(0), -1);
        x.set(2, 30);
        Check.due("31 each sample has its noise", x.bears(0), 14);
        x.set(1, -64);
        x.set(2, -30);
        // Z is 640 s0 + 1280 s1; both samples weigh 64 in size
        Check.due("31 by the taps' sizes", x.bears(0), 4);
        Check.due("31 no pulse", x.bears(1), -1);
        Check.due("31 no such phase", x.bears(4), HIDDEN);
        Check.due("31 no such phase", x.bears(-1), HIDDEN);
        Check.due("31 no line", new HuntedEye().bears(0), HIDDEN);
        HuntedEye most = Check.line("pulse 60;fore 1;back 0");
        Check.due("31 sixty less one", most.bears(0), 59);
        HuntedEye one = Check.line("pulse 1;fore 1;back 0");
        Check.due("31 with 0", one.bears(0), 0);
    }

    private static void promise32Burst() {
        Check.holds(32, "SYMBOLS follow (each with a bit 0 or 1), each KEPT its DECISION, until none of the newest as many as there are BACK TAPS is WRONG");
        HuntedEye x = Check.line("pulse 20,0,0,0,10;fore 1;back 1");
        x.set(1, 10);
        // behind a WRONG one Z is 1280 s0 + 1280 s1: WRONG for s0 -1, s1 1 alone
        Check.due("32 behind -1", x.burst(0, 0), 1);
        Check.due("32 behind -1", x.burst(0, 1), 1);
        Check.due("32 behind 1", x.burst(1, 0), 2);
        Check.due("32 behind 1", x.burst(1, 1), 2);
        Check.due("32 older bits count for nothing here", x.burst(62, 0), 1);
        Check.due("32 older bits count for nothing here", x.burst(63, 1), 2);
        Check.holds(32, "BURST from a ROW: 0 how many follow, 1 how many are WRONG. NONE: no LINE, no such ones. HIDDEN: without end.");
        HuntedEye two = Check.line("pulse 20;fore 1;back 2");
        Check.due("32 two follow", two.burst(0, 0), 2);
        Check.due("32 one is wrong", two.burst(0, 1), 1);
        Check.due("32 no such row", x.burst(64, 0), -1);
        Check.due("32 no such row", x.burst(-1, 0), -1);
        Check.due("32 no such what", x.burst(0, 2), -1);
        Check.due("32 no such what", x.burst(0, -1), -1);
        Check.due("32 no line", new HuntedEye().burst(0, 0), -1);
        x.phase(1);
        // no pulse: Z is -640 KEPT, WRONG wherever KEPT and the next one are the same
        Check.due("32 by the phase as now", x.burst(0, 0), HIDDEN);
        HuntedEye none = Check.line("pulse 20;fore 1;back 0");
        Check.due("32 no back taps", none.burst(5, 0), 0);
        Check.due("32 no back taps", none.burst(5, 1), 1);
        HuntedEye endless = Check.line("pulse 20,0,0,0,30;fore 1;back 1");
        endless.set(1, 30);
        Check.due("32 without end", endless.burst(0, 0), HIDDEN);
        Check.due("32 without end", endless.burst(0, 1), HIDDEN);
    }

    private static void promise32BurstOfTwo() {
        Check.holds(32, "until none of the newest as many as there are BACK TAPS is WRONG");
        HuntedEye x = Check.line("pulse 20;fore 1;back 2");
        // right whatever was KEPT: two right ones follow
        Check.due("32 two follow", x.burst(9, 0), 2);
        Check.due("32 one wrong", x.burst(9, 1), 1);
        x.hold(1);
        x.send(3);
        x.change(0, 4);
        Check.due("32 no noise", x.burst(9, 0), 2);
    }

    private static void promise32BurstByEitherBit() {
        Check.holds(32, "each with a bit 0 or 1");
        HuntedEye x = Check.line("pulse -9,0,0,0,20,0,0,0,6;delay 1;fore 1;back 1");
        x.set(1, 6);
        // behind a WRONG one Z is 64 times -9 s0 + 20 s1 + 12 s2: WRONG for s0 and s1 the same, s2 not
        int[] due = {1, 2, 2, 1};
        for (int row = 0; row < 64; row++) {
            Check.due("32 follow " + row, x.burst(row, 0), due[row % 4]);
            Check.due("32 wrong " + row, x.burst(row, 1), due[row % 4]);
        }
        Check.due("33 the lowest of several", x.bursts(), 1);
    }

    private static void promise33Bursts() {
        Check.holds(33, "BURSTS: the ROW from which most follow (of several the lowest; any without end is most).");
        HuntedEye x = Check.line("pulse 20,0,0,0,10;fore 1;back 1");
        Check.due("33 all the same: the lowest", x.bursts(), 0);
        x.set(1, 10);
        Check.due("33 most follow", x.bursts(), 1);
        HuntedEye endless = Check.line("pulse 20,0,0,0,30;fore 1;back 1");
        endless.set(1, 30);
        Check.due("33 without end", endless.bursts(), 0);
        HuntedEye none = Check.line("pulse 20;back 0");
        Check.due("33 no back taps", none.bursts(), 0);
        Check.due("33 no line", new HuntedEye().bursts(), -1);
    }

    private static void promise34Unrolled() {
        Check.holds(34, "UNROLLED: at the latest SYMBOL (as it was then, ahead of what it LEARNT) for each row of bits of earlier KEPT ones (bit j - 1: KEPT j SYMBOLS ago is 1; else -1; as many as BACK TAPS): Z there.");
        HuntedEye x = Check.line("pulse 20;fore 1;back 3;word 1");
        Check.due("34 no symbol yet", x.unrolled(0), HIDDEN);
        x.set(1, 1);
        x.set(2, 2);
        x.set(3, 4);
        x.send(1);
        for (int row = 0; row < 8; row++) {
            int back = ((row & 1) != 0 ? 1 : -1) + ((row & 2) != 0 ? 2 : -2) + ((row & 4) != 0 ? 4 : -4);
            Check.due("34 row " + row, x.unrolled(row), 1280 - 64 * back);
        }
        Check.holds(34, "UNROLLED for a row of bits: Z. HIDDEN: no SYMBOL yet, no such row.");
        Check.due("34 bits 1, 0, 1", x.unrolled(5), 1280 - 64 * (1 - 2 + 4));
        Check.due("34 ahead of what it learnt", Check.tap(x, 0, 0), 65);
        x.set(1, 200);
        Check.due("34 as it was then", x.unrolled(7), 1280 - 64 * 7);
        Check.due("34 no such row", x.unrolled(8), HIDDEN);
        Check.due("34 no such row", x.unrolled(-1), HIDDEN);
        x.send(1);
        Check.due("34 the latest", x.unrolled(0), 65 * 20 + 64 * (200 + 2 + 4));
        HuntedEye none = Check.line("pulse 20;fore 1;back 0;word 1");
        none.send(1);
        Check.due("34 no back taps", none.unrolled(0), 1280);
        Check.due("34 no back taps", none.unrolled(1), HIDDEN);
        Check.due("34 no line", new HuntedEye().unrolled(0), HIDDEN);
    }

    private static void promise35Improved() {
        Check.holds(35, "IMPROVED, a TAP: which value, not more than 31 from what it is (-255 .. 255), gives the greatest HEIGHT at the PHASE as now (of several the least); that HEIGHT.");
        HuntedEye x = Check.line("pulse 20,0,0,0,10;fore 1;back 1");
        Check.due("35 the back tap that takes it off", x.improved(1, 0), 10);
        Check.due("35 its height", x.improved(1, 1), 2560);
        Check.holds(35, "IMPROVED: 0 the value, 1 the HEIGHT. HIDDEN: no such ones.");
        Check.due("35 31 more", x.improved(0, 0), 95);
        Check.due("35 its height", x.improved(0, 1), 2 * 10 * 95);
        x.set(0, 250);
        Check.due("35 not beyond 255", x.improved(0, 0), 255);
        x.set(1, -30);
        Check.due("35 31 more", x.improved(1, 0), 1);
        x.set(0, -250);
        x.phase(1);
        Check.due("35 of several the least", x.improved(0, 0), -255);
        Check.due("35 at the phase as now", x.improved(0, 1), -2 * 64 * 30);
        Check.due("35 nothing is changed", Check.tap(x, 0, 0), -250);
        HuntedEye flat = Check.line("pulse 0;fore 1;back 0");
        Check.due("35 of several the least", flat.improved(0, 0), 33);
        Check.due("35 height", flat.improved(0, 1), 0);
        HuntedEye less = Check.line("pulse -20;fore 1;back 0");
        Check.due("35 31 less", less.improved(0, 0), 33);
        Check.due("35 no such tap", x.improved(2, 0), HIDDEN);
        Check.due("35 no such tap", x.improved(-1, 0), HIDDEN);
        Check.due("35 no such what", x.improved(0, 2), HIDDEN);
        Check.due("35 no such what", x.improved(0, -1), HIDDEN);
        Check.due("35 no line", new HuntedEye().improved(0, 0), HIDDEN);
    }
}
