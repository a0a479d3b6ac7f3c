/** Promises 36 to 41: what would come. */
public final class AheadTest {
    private static final int HIDDEN = HuntedEye.HIDDEN;
    /** TAP 0 climbs from 64 to 86, then goes between 86 and 85. */
    private static final String CLIMB = "pulse 30;level 40;fore 1;back 0;word 1";
    /** TAP 0 falls, and all SYMBOLS are WRONG as long as it is above 0. */
    private static final String FALL = "pulse -20;fore 1;back 0;word 1;train 99";

    public static void main(String[] args) {
        promise36Settled();
        promise37Quickest();
        promise37VotesAsTheyAre();
        promise38Coming();
        promise38ComingOthers();
        promise39Gain();
        promise40Worst();
        promise41Odds();
        promise41OddsLearn();
        nothingIsChanged();
        Check.finish();
    }

    private static void promise36Settled() {
        Check.holds(36, "in how many SYMBOLS (0 .. 200) all TAPS come to where they keep within b of what they are then for the 32 SYMBOLS behind");
        HuntedEye x = Check.line(CLIMB);
        Check.due("36 goes on for ever", x.settled(0), -1);
        Check.due("36 within 1", x.settled(1), 21);
        Check.due("36 within 2", x.settled(2), 20);
        Check.due("36 within 20", x.settled(20), 2);
        x.send(21);
        Check.due("36 by now", x.settled(1), 0);
        x.hold(1);
        Check.due("36 held", x.settled(0), 0);
        Check.holds(36, "SETTLED. NONE: not so soon, no LINE, b out of bounds.");
        Check.due("36 all the same as now", x.settled(20), 0);
        Check.due("36 b", x.settled(21), -1);
        Check.due("36 b", x.settled(-1), -1);
        Check.due("36 no line", new HuntedEye().settled(1), -1);
        // each move takes nine SYMBOLS: 85 comes in 23 times 9, less those gone by
        HuntedEye last = Check.line(CLIMB + ";gear 9");
        last.set(0, 62);
        Check.due("36 too late", last.settled(1), -1);
        last.send(6);
        Check.due("36 one too late", last.settled(1), -1);
        last.send(1);
        Check.due("36 the 200th", last.settled(1), 200);
    }

    private static void promise37Quickest() {
        Check.holds(37, "they are SETTLED soonest (of several the least)");
        HuntedEye x = Check.line(CLIMB);
        Check.due("37 within 4: four moves in 32", x.quickest(4), 7);
        Check.due("37 within 3", x.quickest(3), 9);
        Check.due("37 within 1", x.quickest(1), 1);
        Check.due("37 by none", x.quickest(0), -1);
        x.hold(1);
        Check.due("37 all at once: the least", x.quickest(0), 1);
        Check.holds(37, "QUICKEST. NONE: by none, no LINE, b out of bounds.");
        Check.due("37 the first gear", x.quickest(20), 1);
        Check.due("37 b", x.quickest(21), -1);
        Check.due("37 b", x.quickest(-1), -1);
        Check.due("37 no line", new HuntedEye().quickest(1), -1);
        HuntedEye slow = Check.line(CLIMB + ";gear 9");
        Check.due("37 whatever the gear is", slow.quickest(1), 1);
        Check.due("37 the gear stays", slow.rule(5), 9);
    }

    private static void promise37VotesAsTheyAre() {
        Check.holds(37, "from now on, VOTES as they are; those of a TAP or of LEVEL whose size is that or more, too, move it as soon as it LEARNS");
        HuntedEye x = Check.line(CLIMB + ";gear 9");
        x.send(5);
        Check.due("37 votes", Check.tap(x, 0, 1), 5);
        // by gear 7 moves come in 2, 9, 16, 23, 30 SYMBOLS: five; by 8 in 3, 11, 19, 27: four
        Check.due("37 votes as they are", x.quickest(4), 8);
        x.send(3);
        // by gear 8 a move comes in 1, 9, 17, 25; by 9 in 1, 10, 19, 28; by 7 in 1, 8, 15, 22, 29
        Check.due("37 those that are more, too", x.quickest(4), 8);
        Check.due("37 four moves by 9", x.quickest(3), 9);
    }

    private static void promise38Coming() {
        Check.holds(38, "COMING: what 0 to 5: a TAP, 6 WRONG in these, 7 the size of Z, the latest (0: no SYMBOL yet), 8 T, 9 RUNS ended, 10 whether DARK, 11 PHASE, 12 LEVEL.");
        HuntedEye x = Check.line(CLIMB);
        Check.due("38 no more", x.coming(0, 0), 64);
        Check.due("38 no symbol yet", x.coming(0, 7), 0);
        Check.due("38 five", x.coming(5, 0), 69);
        Check.due("38 the size of Z", x.coming(5, 7), 68 * 30);
        Check.due("38 T", x.coming(60, 8), 60);
        x.send(3);
        Check.due("38 Z of the latest", x.coming(0, 7), 66 * 30);
        Check.due("38 T", x.coming(0, 8), 3);
        Check.due("38 none wrong", x.coming(60, 6), 0);
        Check.due("38 n", x.coming(61, 0), HIDDEN);
        Check.due("38 n", x.coming(-1, 0), HIDDEN);
        for (int tap = 1; tap < 6; tap++) Check.due("38 no such tap", x.coming(1, tap), HIDDEN);
        Check.due("38 no such what", x.coming(1, 13), HIDDEN);
        Check.due("38 no such what", x.coming(1, -1), HIDDEN);
        Check.due("38 no line", new HuntedEye().coming(1, 8), HIDDEN);
    }

    private static void promise38ComingOthers() {
        Check.holds(38, "COMING, n (0 .. 60): TAPS, how many WRONG, of which size Z is, T, RUNS behind n more SYMBOLS.");
        HuntedEye x = Check.line("pulse 25,40,10,5,12,-6;delay 1;track 1;lock 4;noise 3;gear 2;floor 25;fore 3;back 3;seed 77");
        x.send(7);
        HuntedEye then = Check.line("pulse 25,40,10,5,12,-6;delay 1;track 1;lock 4;noise 3;gear 2;floor 25;fore 3;back 3;seed 77");
        then.send(7);
        for (int n = 2; n <= 60; n += 2) {
            then.send(2);
            for (int tap = 0; tap < 6; tap++) Check.due("38 tap", x.coming(n, tap), Check.tap(then, tap, 0));
            Check.due("38 wrong in these", x.coming(n, 6), then.now(10) - x.now(10));
            Check.due("38 size of Z", x.coming(n, 7), Math.abs(then.log(0, 1)));
            Check.due("38 T", x.coming(n, 8), 7 + n);
            Check.due("38 runs", x.coming(n, 9), then.now(12));
            Check.due("38 dark", x.coming(n, 10), then.now(3));
            Check.due("38 phase", x.coming(n, 11), then.now(1));
            Check.due("38 level", x.coming(n, 12), then.now(16));
        }
    }

    private static void promise39Gain() {
        Check.holds(39, "GAIN, n (1 .. 60): how many WRONG ones come in n SYMBOLS if HELD from now, less those if not");
        HuntedEye x = Check.line(FALL);
        Check.due("39 as wrong", x.gain(60), 0);
        x.send(60);
        // TAP 0 is 4: four more are WRONG, or all if it is HELD
        Check.due("39 ten", x.gain(10), 6);
        Check.due("39 one", x.gain(1), 0);
        Check.due("39 five", x.gain(5), 1);
        x.hold(1);
        Check.due("39 held already", x.gain(10), 6);
        Check.due("39 n", x.gain(0), HIDDEN);
        Check.due("39 n", x.gain(61), HIDDEN);
        Check.due("39 no line", new HuntedEye().gain(1), HIDDEN);
    }

    private static void promise40Worst() {
        Check.holds(40, "WORST, n (1 .. 6): of DROPS of one of the next n SAMPLES (the k-th from 0) that by which most of the next 40 SYMBOLS are WRONG (of several the least k); how many.");
        HuntedEye x = Check.line("pulse 20;fore 1;back 0;level 20;word 1,1,0");
        // a DROP is decided 1
        Check.due("40 none wrong: the least", x.worst(2, 0), 0);
        Check.due("40 none wrong", x.worst(2, 1), 0);
        Check.holds(40, "WORST: which (0), how many (1). NONE: no LINE, n out of bounds, no such what.");
        Check.due("40 the third", x.worst(3, 0), 2);
        Check.due("40 one wrong", x.worst(3, 1), 1);
        Check.due("40 of several the least", x.worst(6, 0), 2);
        x.drop();
        Check.due("40 dropped already", x.worst(1, 1), 0);
        x.send(2);
        x.drop();
        Check.due("40 the next one is dropped, too", x.worst(3, 1), 1);
        Check.due("40 two of them", x.worst(4, 1), 2);
        Check.due("40 which", x.worst(4, 0), 3);
        Check.due("40 n", x.worst(0, 0), -1);
        Check.due("40 n", x.worst(7, 0), -1);
        Check.due("40 no such what", x.worst(1, 2), -1);
        Check.due("40 no such what", x.worst(1, -1), -1);
        Check.due("40 no line", new HuntedEye().worst(1, 0), -1);
        HuntedEye all = Check.line("pulse -20;fore 1;back 0;level 20;word 0");
        all.hold(1);
        Check.due("40 of forty", all.worst(1, 1), 40);
    }

    private static void promise41Odds() {
        Check.holds(41, "ODDS, n (1 .. 4): of all rows of noise in the next n SAMPLES (each of twice NOISE and 1; those that the draws would give count for nothing) by how many no SYMBOL of these is WRONG.");
        HuntedEye x = Check.line("pulse 2;fore 1;back 0;word 1;noise 4;floor 0");
        x.hold(1);
        // right by a noise of -2 and more: seven of nine
        int due = 1;
        for (int n = 1; n <= 4; n++) {
            due *= 7;
            Check.due("41 odds", x.odds(n), due);
        }
        x.dice(123456789);
        Check.due("41 the draws count for nothing", x.odds(2), 49);
        x.drop();
        Check.due("41 a missing one", x.odds(1), 9);
        Check.due("41 a missing one", x.odds(2), 63);
        x.change(0, 0);
        Check.due("41 no noise", x.odds(4), 1);
        x.set(0, -64);
        Check.due("41 none", x.odds(3), 0);
        Check.due("41 n", x.odds(0), -1);
        Check.due("41 n", x.odds(5), -1);
        Check.due("41 no line", new HuntedEye().odds(1), -1);
    }

    private static void promise41OddsLearn() {
        Check.holds(41, "by how many no SYMBOL of these is WRONG");
        HuntedEye x = Check.line("pulse 1;fore 1;back 0;word 1;noise 1;floor 0;level 1");
        x.set(0, -1);
        // Z is -1 times 0, 1, 2: right by -1 alone, decided 1, ERROR -64, SAMPLE 0: no vote, the TAP stays
        Check.due("41 one", x.odds(1), 1);
        Check.due("41 two", x.odds(2), 1);
        HuntedEye y = Check.line("pulse 1;fore 1;back 0;word 1;noise 1;floor 0;level 1;train 9");
        y.set(0, -1);
        // TRAINED: behind 0 the TAP is -1 as before
        Check.due("41 three", y.odds(3), 1);
        y.set(0, 0);
        // Z 0: right by all three; SAMPLES 0, 1, 2: the TAP is 0, 1, 1 then: all right by SAMPLES of 0 and more
        Check.due("41 two", y.odds(2), 9);
    }

    private static void nothingIsChanged() {
        Check.holds(36, "Apart, from as it is now");
        HuntedEye x = Check.line("pulse 25,40,10,5,12,-6;delay 1;track 1;lock 4;noise 3;gear 2;floor 25");
        HuntedEye y = Check.line("pulse 25,40,10,5,12,-6;delay 1;track 1;lock 4;noise 3;gear 2;floor 25");
        x.send(30);
        y.send(30);
        x.settled(3);
        x.quickest(3);
        x.coming(60, 0);
        x.gain(60);
        x.worst(6, 0);
        x.odds(4);
        x.improved(0, 0);
        x.bursts();
        x.map(0);
        Check.due("no acts", x.count(6), 1);
        x.send(40);
        y.send(40);
        for (int i = 0; i < 19; i++) Check.due("as if not asked " + i, x.now(i), y.now(i));
        for (int i = 0; i < 60; i++) Check.due("as if not asked", x.log(i, 1), y.log(i, 1));
    }
}
