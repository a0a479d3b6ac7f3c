/** The boundary cases of promises 36 to 41: what would come. */
public final class AheadEdgesTest {
    private static final int HIDDEN = HuntedEye.HIDDEN;
    private static final int NONE = HuntedEye.NONE;
    /** TAP 0 climbs from 64 to 86, then goes between 86 and 85. */
    private static final String CLIMB = "pulse 30;level 40;fore 1;back 0;word 1";
    /** Loud for four equal bits in a row alone: no longer DARK for some SYMBOLS of each 127, behind seven equal ones. */
    private static final String RARE = "pulse 10,0,0,0,10,0,0,0,10,0,0,0,10;floor 40;level 50;fore 1;back 0;seed ";
    /** All SYMBOLS are WRONG as long as TAP 0 is above 0; it falls. */
    private static final String FALL = "pulse -20;fore 1;back 0;word 1;train 99";
    /** A bit of 0 is WRONG, as Z is 0. */
    private static final String FLAT = "pulse 0;fore 1;back 0;floor 0;word ";

    public static void main(String[] args) {
        settled();
        settledFor32();
        settledByEachTap();
        settledIn200();
        quickest();
        quickestAsByGears();
        quickestByVotes();
        coming();
        comingTaps();
        gain();
        worst();
        worstOf40();
        odds();
        oddsOfDrops();
        behindTheLast();
        Check.finish();
    }

    private static void settled() {
        Check.holds(36, "NONE: not so soon, no LINE, b out of bounds.");
        Check.due("no LINE", new HuntedEye().settled(0), NONE);
        HuntedEye x = Check.line(CLIMB);
        for (int b : new int[] {-1, 21, Integer.MIN_VALUE, Integer.MAX_VALUE}) Check.due("b out of bounds " + b, x.settled(b), NONE);
        Check.due("never within 0", x.settled(0), NONE);
        Check.holds(36, "all TAPS come to where they keep within b of what they are then");
        // 86 and 85 go on for ever: within b of 86 - b at the earliest
        for (int b = 1; b <= 20; b++) Check.due("within " + b, x.settled(b), 86 - b - 64);
        x.hold(1);
        Check.due("HELD: by now", x.settled(0), 0);
        HuntedEye both = Check.line("pulse 30;level 40;fore 1;back 1;word 1");
        both.send(1);
        Check.due("all TAPS, not the first alone", both.settled(20) >= 0 && both.settled(0) == NONE, true);
        // SAMPLES 15, 30, 0, then it is DARK: TAP 0 is 64, 65, 64 and stays
        HuntedEye once = Check.line("pulse 15,0,0,0,15;floor 60;level 20;fore 1;back 0;word 1,1,0");
        Check.due("the first one behind counts, too", once.settled(0), 2);
        Check.due("within 1", once.settled(1), 0);
        Check.holds(36, "SETTLED for b (0 .. 20)");
        HuntedEye still = Check.line("pulse 20;fore 1;back 0;level 20;word 1");
        Check.due("the least b", still.settled(0), 0);
        Check.due("the greatest b", still.settled(20), 0);
    }

    /** TAP 0 behind each number of SYMBOLS. */
    private static int[] path(String line, int n) {
        int[] path = new int[n + 1];
        for (int t = 0; t <= n; t++) {
            HuntedEye x = Check.line(line);
            Check.sendTo(x, t);
            path[t] = Check.tap(x, 0, 0);
        }
        return path;
    }

    private static int settledOn(int[] path, int from, int b) {
        for (int n = 0; n <= 200; n++) {
            boolean keeps = true;
            for (int i = 1; i <= 32; i++) keeps &= Math.abs(path[from + n + i] - path[from + n]) <= b;
            if (keeps) return n;
        }
        return NONE;
    }

    private static void settledFor32() {
        Check.holds(36, "for the 32 SYMBOLS behind");
        int[] path = path(RARE + "1", 400);
        boolean in32 = false;
        boolean in33 = false;
        for (int t = 0; t <= 160; t++) {
            int next = 1;
            while (next < 40 && path[t + next] == path[t]) next++;
            HuntedEye x = Check.line(RARE + "1");
            Check.sendTo(x, t);
            for (int b = 0; b <= 3; b++) Check.due("from T " + t + " within " + b, x.settled(b), settledOn(path, t, b));
            if (next == 32) Check.due("one moves with the 32nd", x.settled(0) > 0, true);
            if (next == 33) Check.due("one moves with the 33rd", x.settled(0), 0);
            in32 |= next == 32;
            in33 |= next == 33;
        }
        Check.due("there was a 32nd", in32, true);
        Check.due("there was a 33rd", in33, true);
    }

    private static void settledByEachTap() {
        Check.holds(36, "all TAPS come to where they keep within b of what they are then");
        String[] lines = {"pulse 20,0,0,0,15,0,0,0,-9,0,0,0,12;fore 3;back 3;level 25", "pulse 30,0,0,0,10,0,0,0,5,0,0,0,-20;fore 3;back 3;gear 3;noise 2;seed 9",
            "pulse 9,0,0,0,-30,0,0,0,20;fore 3;back 3;delay 1;gear 2;train 99"};
        boolean[] needed = new boolean[6];
        for (String line : lines) {
            int[][] path = allTaps(line, 232);
            HuntedEye x = Check.line(line);
            for (int b = 0; b <= 20; b++) {
                int due = settledOn(path, b, 6);
                Check.due(line + " within " + b, x.settled(b), due);
                for (int taps = 1; taps <= 5; taps++) needed[taps] |= settledOn(path, b, taps) != due;
            }
        }
        for (int taps = 1; taps <= 5; taps++) Check.due("by " + taps + " TAPS alone it is not the same", needed[taps], true);
    }

    /** All six TAPS behind each number of SYMBOLS. */
    private static int[][] allTaps(String line, int n) {
        int[][] path = new int[n + 1][6];
        for (int t = 0; t <= n; t++) {
            HuntedEye x = Check.line(line);
            Check.sendTo(x, t);
            for (int tap = 0; tap < 6; tap++) path[t][tap] = Check.tap(x, tap, 0);
        }
        return path;
    }

    private static int settledOn(int[][] path, int b, int taps) {
        for (int n = 0; n <= 200; n++) {
            boolean keeps = true;
            for (int i = 1; i <= 32; i++) {
                for (int tap = 0; tap < taps; tap++) keeps &= Math.abs(path[n + i][tap] - path[n][tap]) <= b;
            }
            if (keeps) return n;
        }
        return NONE;
    }

    private static void settledIn200() {
        Check.holds(36, "in how many SYMBOLS (0 .. 200)");
        // a move takes nine SYMBOLS: from 63 on 85 comes in 22 times 9, 198
        HuntedEye x = Check.line(CLIMB + ";gear 9");
        x.set(0, 63);
        Check.due("198", x.settled(1), 198);
        HuntedEye y = Check.line(CLIMB + ";gear 9");
        y.set(0, 62);
        y.send(6);
        Check.due("201 is not so soon", y.settled(1), NONE);
        y.send(1);
        Check.due("200", y.settled(1), 200);
        y.send(1);
        Check.due("199", y.settled(1), 199);
    }

    private static void quickest() {
        Check.holds(37, "NONE: by none, no LINE, b out of bounds.");
        Check.due("no LINE", new HuntedEye().quickest(0), NONE);
        HuntedEye x = Check.line(CLIMB);
        for (int b : new int[] {-1, 21, Integer.MIN_VALUE, Integer.MAX_VALUE}) Check.due("b out of bounds " + b, x.quickest(b), NONE);
        Check.due("by none", x.quickest(0), NONE);
        Check.holds(37, "they are SETTLED soonest (of several the least)");
        x.hold(1);
        Check.due("all at once", x.quickest(0), 1);
        Check.due("all at once", x.quickest(20), 1);
        HuntedEye y = Check.line(CLIMB);
        // by gear 8 and by gear 9 within 4 at once, by 7 (4 moves in 32) too, by 6 (5 moves) not
        Check.due("the least of 7, 8, 9", y.quickest(4), 7);
        Check.due("gear 9 alone", y.quickest(3), 9);
        Check.due("gear 1", y.quickest(1), 1);
    }

    private static void quickestAsByGears() {
        Check.holds(37, "QUICKEST for b: by which gear (1 .. 9; from now on, VOTES as they are");
        String[] lines = {CLIMB, RARE + "9", FALL, "pulse 25,40,10,5,12,-6;delay 1;track 1;lock 4;noise 1", "pulse 30,0,0,0,9,0,0,0,-5;fore 3;back 3",
            "pulse 20,0,0,0,25;fore 2;back 1;track 1;level 30;floor 25"};
        for (String line : lines) {
            for (int b = 0; b <= 20; b++) {
                int best = NONE;
                int soonest = 999;
                for (int gear = 1; gear <= 9; gear++) {
                    int n = Check.line(line + ";gear " + gear).settled(b);
                    if (n != NONE && n < soonest) {
                        soonest = n;
                        best = gear;
                    }
                }
                // at first there are no VOTES: a LINE of that gear is the same
                Check.due(line + " within " + b, Check.line(line + ";gear 5").quickest(b), best);
            }
        }
    }

    private static void quickestByVotes() {
        Check.holds(37, "those of a TAP or of LEVEL whose size is that or more, too, move it as soon as it LEARNS");
        HuntedEye x = Check.line(CLIMB + ";gear 9");
        x.send(8);
        Check.due("VOTES", Check.tap(x, 0, 1), 8);
        // moves by gear 7 come with 1, 8, 15, 22, 29; by 8 with 1, 9, 17, 25; by 9 with 1, 10, 19, 28
        Check.due("within 4", x.quickest(4), 8);
        // by 9 then with 1, 10, 19, 28: within 3 only behind the first one, by 8 behind the second, by 7 later
        Check.due("within 3", x.quickest(3), 9);
        // by gear 1 TAP and LEVEL are 65, 22; 66, 21; 67, 20; 68, 19 and go back and forth: within 3 behind one SYMBOL;
        // with LEVEL at 23 for longer the TAP would climb on
        HuntedEye level = Check.line("pulse 19;fore 1;back 0;word 1;track 1;level 23;gear 9");
        level.send(8);
        Check.due("VOTES of LEVEL", level.now(17), -8);
        Check.due("LEVEL moves, too", level.quickest(3), 1);
        // HELD nothing moves, whatever the VOTES are
        x.hold(1);
        Check.due("it does not LEARN", x.quickest(0), 1);
        Check.due("VOTES stay", Check.tap(x, 0, 1), 8);
        Check.due("the gear stays", x.rule(5), 9);
        Check.due("the TAP stays", Check.tap(x, 0, 0), 64);
    }

    private static void coming() {
        Check.holds(38, "HIDDEN: no LINE, n out of bounds, no such TAP, no such what.");
        for (int what = 0; what < 13; what++) Check.due("no LINE", new HuntedEye().coming(0, what), HIDDEN);
        HuntedEye x = Check.line(CLIMB);
        for (int n : new int[] {-1, 61, Integer.MIN_VALUE, Integer.MAX_VALUE}) Check.due("n out of bounds " + n, x.coming(n, 8), HIDDEN);
        for (int what : new int[] {-1, 13, Integer.MIN_VALUE, Integer.MAX_VALUE}) Check.due("no such what " + what, x.coming(1, what), HIDDEN);
        for (int what = 1; what <= 5; what++) Check.due("no such TAP " + what, x.coming(1, what), HIDDEN);
        HuntedEye six = Check.line("pulse 30;fore 3;back 3;word 1");
        for (int what = 0; what <= 12; what++) Check.due("there is " + what, six.coming(60, what) != HIDDEN, true);
        Check.holds(38, "COMING, n (0 .. 60)");
        Check.due("no more", x.coming(0, 8), 0);
        Check.due("sixty more", x.coming(60, 8), 60);
        Check.holds(38, "7 the size of Z, the latest (0: no SYMBOL yet)");
        Check.due("no SYMBOL yet", x.coming(0, 7), 0);
        Check.due("the first", x.coming(1, 7), 64 * 30);
        x.send(1);
        Check.due("the latest by now", x.coming(0, 7), 64 * 30);
        x.undo();
        Check.due("UNDONE: no SYMBOL yet", x.coming(0, 7), 0);
        HuntedEye below = Check.line("pulse 30;fore 1;back 0;word 0");
        Check.due("the size of one below 0", below.coming(1, 7), 64 * 30);
        Check.holds(38, "6 WRONG in these");
        HuntedEye wrong = Check.line(FALL);
        wrong.send(5);
        Check.due("not those ahead", wrong.coming(3, 6), 3);
        Check.due("none in none", wrong.coming(0, 6), 0);
    }

    private static void comingTaps() {
        Check.holds(38, "what 0 to 5: a TAP");
        String line = "pulse 25,40,10,5,12,-6;delay 1;track 1;lock 4;noise 3;gear 2;floor 25;fore 3;back 3;seed 77";
        for (int n : new int[] {0, 1, 59, 60}) {
            HuntedEye x = Check.line(line);
            HuntedEye then = Check.line(line);
            x.send(50);
            then.send(50);
            int wrong = n == 0 ? 0 : then.send(n);
            for (int tap = 0; tap < 6; tap++) Check.due("TAP " + tap + " in " + n, x.coming(n, tap), Check.tap(then, tap, 0));
            Check.due("WRONG in " + n, x.coming(n, 6), wrong);
            Check.due("Z in " + n, x.coming(n, 7), Math.abs(then.log(0, 1)));
            int[] now = {0, 12, 3, 1, 16};
            for (int i = 0; i < 5; i++) Check.due("what " + (8 + i) + " in " + n, x.coming(n, 8 + i), then.now(now[i]));
            Check.due("nothing is changed", x.now(0), 50);
        }
    }

    private static void gain() {
        Check.holds(39, "GAIN. HIDDEN: no LINE, n out of bounds.");
        Check.due("no LINE", new HuntedEye().gain(1), HIDDEN);
        HuntedEye x = Check.line(FALL);
        for (int n : new int[] {0, -1, 61, Integer.MIN_VALUE, Integer.MAX_VALUE}) Check.due("n out of bounds " + n, x.gain(n), HIDDEN);
        Check.holds(39, "GAIN, n (1 .. 60): how many WRONG ones come in n SYMBOLS if HELD from now, less those if not");
        x.set(0, 1);
        // Z -20 then 0: WRONG once, or for ever if HELD
        Check.due("one", x.gain(1), 0);
        Check.due("two", x.gain(2), 1);
        Check.due("sixty", x.gain(60), 59);
        x.hold(1);
        Check.due("it is HELD by now", x.gain(60), 59);
        Check.due("HELD it stays", x.now(2), 1);
        HuntedEye better = Check.line("pulse 20,0,0,0,-19;fore 1;back 1;word 1,1,0;level 1");
        better.set(1, 2);
        int held = wrongIn(better, 40, 1);
        int not = wrongIn(better, 40, 0);
        Check.due("as if it were done", better.gain(40), held - not);
    }

    private static int wrongIn(HuntedEye x, int n, int held) {
        x.hold(1 - held);
        x.hold(held);
        int wrong = x.coming(n, 6);
        x.undo();
        return wrong;
    }

    private static void worst() {
        Check.holds(40, "NONE: no LINE, n out of bounds, no such what.");
        Check.due("no LINE", new HuntedEye().worst(1, 0), NONE);
        HuntedEye x = Check.line("pulse 20;fore 1;back 0;level 20;word 1,1,1,1,1,0");
        for (int n : new int[] {0, -1, 7, Integer.MIN_VALUE, Integer.MAX_VALUE}) Check.due("n out of bounds " + n, x.worst(n, 0), NONE);
        for (int what : new int[] {-1, 2, Integer.MIN_VALUE, Integer.MAX_VALUE}) Check.due("no such what " + what, x.worst(1, what), NONE);
        Check.holds(40, "WORST, n (1 .. 6): of DROPS of one of the next n SAMPLES (the k-th from 0)");
        Check.due("the sixth is not among five", x.worst(5, 1), 0);
        Check.due("the sixth", x.worst(6, 0), 5);
        Check.due("one WRONG", x.worst(6, 1), 1);
        x.send(5);
        Check.due("the next one", x.worst(1, 0), 0);
        Check.due("one WRONG", x.worst(1, 1), 1);
        Check.holds(40, "of several the least k");
        HuntedEye none = Check.line("pulse 20;fore 1;back 0;level 20;word 1");
        Check.due("all the same", none.worst(6, 0), 0);
        HuntedEye two = Check.line("pulse 20;fore 1;back 0;level 20;word 1,0,1,0");
        Check.due("k 1, 3 and 5", two.worst(6, 0), 1);
    }

    private static void worstOf40() {
        Check.holds(40, "that by which most of the next 40 SYMBOLS are WRONG");
        HuntedEye all = Check.line("pulse -20;fore 1;back 0;level 20;word 0");
        all.hold(1);
        for (int n = 1; n <= 6; n++) Check.due("all forty", all.worst(n, 1), 40);
        // the DROP is one of the forty
        HuntedEye less = Check.line("pulse -20;fore 1;back 0;level 20;word 1");
        less.hold(1);
        Check.due("the one DROPPED is right", less.worst(1, 1), 39);
        Check.due("the one DROPPED is right", less.worst(6, 1), 39);
        // WRONG are bits of 0: the forty are those from T 0 to 39, then those from 1 to 40
        HuntedEye word = Check.line(FLAT + "1,1,1,1,1,1,1,0,1,1,1,1,1,1,1,1");
        word.hold(1);
        Check.due("T 7, 23, 39", word.worst(1, 1), 3);
        word.send(1);
        Check.due("T 7, 23, 39 of 1 to 40", word.worst(1, 1), 3);
        word.undo();
        HuntedEye late = Check.line(FLAT + "1,1,1,1,1,1,1,1,0,1,1,1,1,1,1,1");
        late.hold(1);
        Check.due("T 8, 24, not 40", late.worst(1, 1), 2);
        late.send(1);
        Check.due("T 8, 24, 40 of 1 to 40", late.worst(1, 1), 3);
    }

    private static void odds() {
        Check.holds(41, "ODDS. NONE: no LINE, n out of bounds.");
        Check.due("no LINE", new HuntedEye().odds(1), NONE);
        HuntedEye x = Check.line("pulse 9;fore 1;back 0;word 1;floor 0;level 9");
        for (int n : new int[] {0, -1, 5, Integer.MIN_VALUE, Integer.MAX_VALUE}) Check.due("n out of bounds " + n, x.odds(n), NONE);
        x.hold(1);
        Check.holds(41, "ODDS, n (1 .. 4): of all rows of noise in the next n SAMPLES (each of twice NOISE and 1");
        for (int noise = 0; noise <= 4; noise++) {
            if (noise > 0) x.change(0, noise);
            int rows = 1;
            for (int n = 1; n <= 4; n++) {
                rows *= 2 * noise + 1;
                Check.due("all rows by NOISE " + noise, x.odds(n), rows);
            }
        }
        x.set(0, -64);
        for (int n = 1; n <= 4; n++) Check.due("no row", x.odds(n), 0);
        Check.holds(41, "by how many no SYMBOL of these is WRONG");
        for (int pulse = -5; pulse <= 5; pulse++) {
            HuntedEye y = Check.line("pulse " + pulse + ";fore 1;back 0;word 1;floor 0;noise 4");
            y.hold(1);
            // right by a noise of - pulse and more
            int right = Math.max(0, Math.min(9, 5 + pulse));
            Check.due("pulse " + pulse, y.odds(1), right);
            Check.due("pulse " + pulse, y.odds(4), right * right * right * right);
        }
    }

    private static void oddsOfDrops() {
        Check.holds(41, "those that the draws would give count for nothing");
        HuntedEye x = Check.line("pulse 2;fore 1;back 0;word 1;floor 0;noise 3");
        x.hold(1);
        for (long v : new long[] {0, 1, -1, Long.MAX_VALUE, Long.MIN_VALUE}) {
            x.dice(v);
            Check.due("six of seven", x.odds(2), 36);
        }
        HuntedEye y = Check.line("pulse 2;fore 1;back 0;word 1;floor 0;noise 3");
        y.hold(1);
        y.odds(4);
        HuntedEye z = Check.line("pulse 2;fore 1;back 0;word 1;floor 0;noise 3");
        z.hold(1);
        y.send(9);
        z.send(9);
        for (int i = 0; i < 9; i++) Check.due("the draws are as they were", y.log(i, 0), z.log(i, 0));
        x.drop();
        Check.due("MISSING: right by all of its noise", x.odds(1), 7);
        Check.due("MISSING: right by all of its noise", x.odds(2), 42);
        // Z is 64 times 2 and the noise, behind the first SYMBOL 64 less
        HuntedEye back = Check.line("pulse 2;fore 1;back 1;word 1;floor 0;noise 3");
        back.hold(1);
        back.set(1, 1);
        Check.due("none KEPT yet", back.odds(1), 6);
        Check.due("the BACK TAP takes 1 off: right by -1 and more", back.odds(2), 6 * 5);
        HuntedEye late = Check.line("pulse -9;fore 1;back 0;word 1;floor 0;noise 1;delay 2");
        Check.due("no TRUTH: not WRONG", late.odds(2), 9);
        Check.due("the first TRUTH", late.odds(3), 0);
    }

    private static void behindTheLast() {
        Check.holds(38, "Apart, from as it is now; SYMBOLS go on behind 9,999, but not in RUN.");
        // 9999 is 15 modulo 16: the next bit is the last of the word
        HuntedEye x = Check.line(FLAT + "1,1,1,1,1,1,1,1,1,1,1,1,1,1,0,0");
        x.hold(1);
        Check.sendTo(x, 9999);
        Check.due("WRONG in 1", x.coming(1, 6), 1);
        Check.due("WRONG in 15", x.coming(15, 6), 1);
        Check.due("WRONG in 16", x.coming(16, 6), 2);
        Check.due("WRONG in 60", x.coming(60, 6), 7);
        Check.due("T goes on", x.coming(60, 8), 10059);
        Check.holds(40, "Apart, from as it is now; SYMBOLS go on behind 9,999");
        Check.due("WORST goes on", x.worst(6, 1), 5);
        Check.holds(41, "Apart, from as it is now; SYMBOLS go on behind 9,999");
        x.change(0, 4);
        x.set(0, 1);
        // by a noise of less than 0
        Check.due("ODDS go on", x.odds(1), 4);
        Check.due("by one of 0 and more", x.odds(2), 4 * 5);
        Check.due("T stays", x.now(0), 9999);
        HuntedEye y = Check.line(FALL + ";gear 9");
        y.hold(1);
        Check.sendTo(y, 9999);
        Check.holds(39, "Apart, from as it is now; SYMBOLS go on behind 9,999");
        y.set(0, 1);
        y.change(1, 99);
        Check.due("GAIN goes on", y.gain(20), 11);
        Check.holds(36, "Apart, from as it is now; SYMBOLS go on behind 9,999");
        HuntedEye z = Check.line(CLIMB);
        z.hold(1);
        Check.sendTo(z, 9999);
        z.hold(0);
        Check.due("SETTLED goes on", z.settled(1), 21);
        Check.holds(37, "Apart, from as it is now; SYMBOLS go on behind 9,999");
        Check.due("QUICKEST goes on", z.quickest(4), 7);
    }
}
