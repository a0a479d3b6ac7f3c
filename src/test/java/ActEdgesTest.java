/** The boundary cases of promises 11, 13 to 22, 25, 26 and 42 to 44: ACTS, STATUS, UNDOING, YEARS, SCRIPTS, IMAGES, counts. */
public final class ActEdgesTest {
    private static final int HIDDEN = HuntedEye.HIDDEN;
    private static final int NONE = HuntedEye.NONE;
    private static final int[] FAR = {Integer.MIN_VALUE, Integer.MAX_VALUE};
    /** Its ERROR is 0: nothing moves. */
    private static final String STILL = "pulse 20;fore 1;back 0;level 20;word 1";
    private static final String LIVELY = "pulse 25,40,10,5,12,-6;delay 1;track 1;lock 4;noise 1;gear 2;floor 20";

    public static void main(String[] args) {
        risk();
        phase();
        hold();
        set();
        drop();
        change();
        dice();
        seek();
        seekTies();
        years();
        yearsByRisk();
        yearsAtTheLast();
        status();
        statusOfSeveral();
        undoForty();
        undoTogether();
        undoLog();
        undoErrors();
        run();
        runApart();
        runAtTheLast();
        perform();
        performForty();
        image();
        back();
        count();
        refusedChangesNothing();
        Check.finish();
    }

    private static void risk() {
        Check.holds(11, "RISK (0 .. 9). False: out of bounds, it is so.");
        HuntedEye x = new HuntedEye();
        Check.due("3 at first: it is so", x.risk(3), false);
        Check.due("the least", x.risk(0), true);
        Check.due("it is so", x.risk(0), false);
        Check.due("below", x.risk(-1), false);
        Check.due("it stays", x.count(4), 0);
        Check.due("the most", x.risk(9), true);
        Check.due("it is so", x.risk(9), false);
        Check.due("beyond", x.risk(10), false);
        for (int far : FAR) Check.due("far", x.risk(far), false);
        Check.due("it stays", x.count(4), 9);
        Check.due("no STATUS", Check.statusSum(x), 0);
        Check.retell(x, STILL);
        x.risk(1);
        Check.due("no ACT", x.count(6), 0);
    }

    /** No LINE, then n refused as out of bounds, then as it is so: what STATUS tells. */
    private static void told(HuntedEye x, int noLine, int bounds, int isSo) {
        Check.due("STATUS 0", x.status(0), noLine);
        Check.due("STATUS 1", x.status(1), bounds);
        Check.due("STATUS 2", x.status(2), isSo);
        Check.due("STATUS 3", x.status(3), 0);
    }

    private static void phase() {
        Check.holds(13, "NONE: no LINE (STATUS 0), out of bounds (1), it is so (2).");
        HuntedEye x = new HuntedEye();
        Check.due("no LINE", x.phase(1), NONE);
        Check.due("no LINE, out of bounds", x.phase(4), NONE);
        Check.retell(x, STILL);
        for (int v : new int[] {-1, 4, Integer.MIN_VALUE, Integer.MAX_VALUE}) Check.due("out of bounds " + v, x.phase(v), NONE);
        Check.due("it is so", x.phase(0), NONE);
        told(x, 2, 4, 1);
        Check.due("no ACT", x.count(6), 0);
        Check.holds(13, "PHASE is set: what it was.");
        Check.due("the greatest", x.phase(3), 0);
        Check.due("PHASE", x.now(1), 3);
        Check.due("it is so", x.phase(3), NONE);
        Check.due("the least", x.phase(0), 3);
        told(x, 2, 4, 2);
    }

    private static void hold() {
        Check.holds(14, "NONE: no LINE (STATUS 0), out of bounds (1), it is so (2).");
        HuntedEye x = new HuntedEye();
        Check.due("no LINE", x.hold(1), NONE);
        Check.due("no LINE, out of bounds", x.hold(2), NONE);
        Check.retell(x, STILL);
        for (int v : new int[] {-1, 2, Integer.MIN_VALUE, Integer.MAX_VALUE}) Check.due("out of bounds " + v, x.hold(v), NONE);
        Check.due("it is so", x.hold(0), NONE);
        told(x, 2, 4, 1);
        Check.holds(14, "HELD (1) or not (0): what it was.");
        Check.due("HELD", x.hold(1), 0);
        Check.due("now", x.now(2), 1);
        Check.due("it is so", x.hold(1), NONE);
        Check.due("not HELD", x.hold(0), 1);
        Check.due("now", x.now(2), 0);
        told(x, 2, 4, 2);
    }

    private static void set() {
        Check.holds(15, "HIDDEN: no such TAP (STATUS 0), out of bounds (1), it is so (2).");
        HuntedEye x = new HuntedEye();
        Check.due("no LINE", x.set(0, 1), HIDDEN);
        Check.retell(x, "pulse 20;fore 1;back 1");
        for (int tap : new int[] {-1, 2, Integer.MIN_VALUE, Integer.MAX_VALUE}) Check.due("no such TAP " + tap, x.set(tap, 1), HIDDEN);
        Check.due("no such TAP, out of bounds", x.set(2, 256), HIDDEN);
        for (int v : new int[] {-256, 256, Integer.MIN_VALUE, Integer.MAX_VALUE}) Check.due("out of bounds " + v, x.set(1, v), HIDDEN);
        Check.due("it is so", x.set(0, 64), HIDDEN);
        Check.due("it is so", x.set(1, 0), HIDDEN);
        told(x, 6, 4, 2);
        Check.due("no ACT", x.count(6), 0);
        Check.holds(15, "A TAP is set: what it was.");
        Check.due("the least", x.set(0, -255), 64);
        Check.due("the greatest", x.set(0, 255), -255);
        Check.due("the last TAP", x.set(1, -255), 0);
        Check.holds(15, "a TAP (its VOTES become 0)");
        HuntedEye y = Check.line("pulse 30;fore 2;back 1;gear 9;word 1");
        y.send(4);
        Check.due("VOTES", Check.tap(y, 0, 1), 4);
        y.set(0, 64);
        Check.due("refused: VOTES stay", Check.tap(y, 0, 1), 4);
        y.set(0, 65);
        Check.due("VOTES become 0", Check.tap(y, 0, 1), 0);
        Check.due("not those of others", Check.tap(y, 1, 1), 3);
        Check.due("not those of others", Check.tap(y, 2, 1), -3);
        y.set(2, 1);
        Check.due("VOTES of a BACK TAP become 0", Check.tap(y, 2, 1), 0);
    }

    private static void drop() {
        Check.holds(16, "NONE: no LINE (STATUS 0), it is so (2).");
        HuntedEye x = new HuntedEye();
        Check.due("no LINE", x.drop(), NONE);
        Check.retell(x, STILL);
        Check.due("T", x.drop(), 0);
        Check.due("it is so", x.drop(), NONE);
        told(x, 1, 0, 1);
        Check.holds(16, "The next SAMPLE is DROPPED: T.");
        x.send(3);
        Check.due("the next one", x.log(2, 0), HIDDEN);
        Check.due("no other", x.log(1, 0), 20);
        Check.due("it is not so any more", x.drop(), 3);
        x.undo();
        Check.due("UNDONE it is not so", x.now(7), 0);
        Check.due("so it can be", x.drop(), 3);
    }

    private static void change() {
        Check.holds(17, "NONE: no LINE (STATUS 0), out of bounds (1), it is so (2).");
        HuntedEye x = new HuntedEye();
        Check.due("no LINE", x.change(0, 1), NONE);
        Check.due("no LINE", x.change(1, 1), NONE);
        Check.due("no LINE, no such what", x.change(2, 1), NONE);
        Check.due("no LINE, out of bounds", x.change(0, 5), NONE);
        Check.retell(x, STILL + ";noise 1;train 2");
        for (int v : new int[] {-1, 5, Integer.MIN_VALUE, Integer.MAX_VALUE}) Check.due("NOISE out of bounds " + v, x.change(0, v), NONE);
        for (int v : new int[] {-1, 100, Integer.MIN_VALUE, Integer.MAX_VALUE}) Check.due("TRAIN out of bounds " + v, x.change(1, v), NONE);
        for (int what : new int[] {-1, 2, Integer.MIN_VALUE, Integer.MAX_VALUE}) Check.due("no such what " + what, x.change(what, 3), NONE);
        Check.due("it is so", x.change(0, 1), NONE);
        Check.due("it is so", x.change(1, 2), NONE);
        told(x, 4, 12, 2);
        Check.due("no ACT", x.count(6), 0);
        Check.holds(17, "NOISE (0 .. 4; what 0), TRAIN (0 .. 99; 1) is set: what it was.");
        Check.due("the most NOISE", x.change(0, 4), 1);
        Check.due("NOISE", x.now(4), 4);
        Check.due("the least NOISE", x.change(0, 0), 4);
        Check.due("the most TRAIN", x.change(1, 99), 2);
        Check.due("TRAIN", x.now(5), 99);
        Check.due("the least TRAIN", x.change(1, 0), 99);
        Check.due("it is so", x.change(1, 0), NONE);
    }

    private static void dice() {
        Check.holds(18, "NONE: no LINE (STATUS 0). (An ACT, however it was.)");
        HuntedEye x = new HuntedEye();
        Check.due("no LINE", x.dice(0), NONE);
        told(x, 1, 0, 0);
        Check.retell(x, STILL + ";noise 4");
        Check.due("as it was: 0", x.dice(0), 0);
        Check.due("an ACT", x.count(6), 1);
        x.send(2);
        Check.due("T", x.dice(Long.MIN_VALUE), 2);
        Check.due("the same again", x.dice(Long.MIN_VALUE), 2);
        Check.due("ACTS", x.count(6), 4);
        told(x, 1, 0, 0);
        Check.holds(18, "DICE sets it; it is UNDONE, too");
        HuntedEye y = Check.line(STILL + ";noise 4");
        y.send(20);
        int[] samples = new int[20];
        for (int i = 0; i < 20; i++) samples[i] = y.log(i, 0);
        y.undo();
        y.dice(99);
        y.send(20);
        boolean other = false;
        for (int i = 0; i < 20; i++) other |= y.log(i, 0) != samples[i];
        Check.due("by DICE others come", other, true);
        y.undo();
        y.undo();
        y.send(20);
        for (int i = 0; i < 20; i++) Check.due("UNDONE the same come", y.log(i, 0), samples[i]);
    }

    private static int soughtFrom(String pulse, int phase) {
        HuntedEye x = Check.line("pulse " + pulse + ";fore 1;back 0");
        x.phase(phase);
        return x.seek();
    }

    private static void seek() {
        Check.holds(19, "NONE: no LINE (STATUS 0), none next to it is better (2).");
        HuntedEye x = new HuntedEye();
        Check.due("no LINE", x.seek(), NONE);
        told(x, 1, 0, 0);
        Check.retell(x, "pulse 30,20,10,40;fore 1;back 0");
        Check.due("none next to it", x.seek(), NONE);
        told(x, 1, 0, 1);
        Check.due("no ACT", x.count(6), 0);
        Check.due("the PHASE stays", x.now(1), 0);
        Check.holds(19, "as long as a PHASE next to it (one less, one more) has a greater HEIGHT");
        Check.due("from the lowest to the highest", soughtFrom("10,20,30,40", 0), 3);
        Check.due("from the highest to the lowest", soughtFrom("40,30,20,10", 3), 0);
        Check.due("not across a lower one", soughtFrom("20,30,10,40", 0), 1);
        Check.due("not across an equal one", soughtFrom("20,20,40", 0), NONE);
        Check.due("equal ones are no better", soughtFrom("20,20,20,20", 1), NONE);
        Check.due("at the greatest", soughtFrom("10,40,10", 1), NONE);
        Check.due("at the lowest PHASE", soughtFrom("40,10", 0), NONE);
        Check.due("at the highest PHASE", soughtFrom("10,10,10,40", 3), NONE);
    }

    private static void seekTies() {
        Check.holds(19, "PHASE is that of these whose HEIGHT is greatest (of equal ones the lower)");
        Check.due("equal on both sides", soughtFrom("30,10,30", 1), 0);
        Check.due("equal on both sides", soughtFrom("0,30,10,30", 2), 1);
        Check.due("greater above", soughtFrom("30,10,31", 1), 2);
        Check.due("greater below", soughtFrom("31,10,30", 1), 0);
        // the greater one next to it is taken, though the way by the other leads higher
        Check.due("step by step", soughtFrom("30,10,20,40", 1), 0);
        Check.holds(19, "A SEEKING: the PHASE then.");
        HuntedEye x = Check.line("pulse 10,20,30,40;fore 1;back 0");
        Check.due("PHASE", x.seek(), 3);
        Check.due("PHASE", x.now(1), 3);
        Check.due("one ACT", x.count(6), 1);
        x.undo();
        Check.due("UNDONE at once", x.now(1), 0);
    }

    private static void years() {
        Check.holds(20, "NONE: no LINE, n out of bounds.");
        HuntedEye x = new HuntedEye();
        Check.due("no LINE", x.years(1, 1), NONE);
        Check.retell(x, STILL);
        for (int n : new int[] {0, -1, 41, Integer.MIN_VALUE, Integer.MAX_VALUE}) Check.due("n " + n, x.years(n, 1), NONE);
        Check.due("nothing came", x.now(0), 0);
        Check.due("no ACT", x.count(6), 0);
        Check.holds(20, "Each time is one ACT. No STATUS.");
        Check.due("no STATUS", Check.statusSum(x), 0);
        Check.holds(20, "YEARS by a seed: n (1 .. 40) times");
        for (long seed : new long[] {0, 1, -1, Long.MIN_VALUE, Long.MAX_VALUE}) {
            HuntedEye one = Check.line(STILL);
            int t = one.years(1, seed);
            Check.due("one to eight SYMBOLS", t >= 1 && t <= 8, true);
            Check.due("one ACT", one.count(6), 1);
            HuntedEye forty = Check.line(STILL);
            t = forty.years(40, seed);
            Check.due("T", forty.now(0), t);
            Check.due("forty ACTS", forty.count(6), 40);
            for (int i = 39; i >= 0; i--) Check.due("UNDONE one by one", forty.undo(), i);
            Check.due("T", forty.now(0), 0);
        }
    }

    /** What a year should do, by draws of its own. */
    private static long yearByHand(HuntedEye x, long seed, int risk) {
        java.math.BigInteger[] y = {new java.math.BigInteger(Long.toUnsignedString(seed))};
        if (draw(y, 10) < risk) {
            int what = draw(y, 4);
            if (what == 0) x.drop();
            if (what == 1) x.phase(draw(y, 4));
            if (what == 2) x.change(0, draw(y, 5));
            if (what == 3) x.hold(1 - x.now(2));
        }
        x.send(draw(y, 8) + 1);
        return y[0].longValue();
    }

    private static int draw(java.math.BigInteger[] y, int j) {
        y[0] = y[0].multiply(new java.math.BigInteger("6364136223846793005")).add(new java.math.BigInteger("1442695040888963407"))
            .mod(java.math.BigInteger.ONE.shiftLeft(64));
        return y[0].shiftRight(33).mod(java.math.BigInteger.valueOf(j)).intValue();
    }

    private static void yearsByRisk() {
        Check.holds(20, "a draw of 10: below RISK (0 .. 9; 3 at first)");
        for (int risk = 0; risk <= 9; risk++) {
            HuntedEye x = Check.line(LIVELY);
            HuntedEye hand = Check.line(LIVELY);
            x.risk(risk);
            hand.risk(risk);
            long y = -5 - risk;
            x.years(40, y);
            for (int i = 0; i < 40; i++) y = yearByHand(hand, y, risk);
            for (int what = 0; what < 19; what++) Check.due("RISK " + risk + ", now " + what, x.now(what), hand.now(what));
            for (int i = 0; i < 60; i++) Check.due("RISK " + risk + ", Z", x.log(i, 1), hand.log(i, 1));
        }
        Check.holds(20, "These draws go by y, at first the seed");
        for (long seed : new long[] {0, -1, Long.MIN_VALUE, Long.MAX_VALUE}) {
            HuntedEye x = Check.line(LIVELY);
            HuntedEye hand = Check.line(LIVELY);
            x.years(2, seed);
            yearByHand(hand, yearByHand(hand, seed, 3), 3);
            for (int what = 0; what < 19; what++) Check.due("seed " + seed + ", now " + what, x.now(what), hand.now(what));
        }
        Check.holds(20, "a draw of 10: below RISK (0 .. 9; 3 at first)");
        HuntedEye x = Check.line(STILL);
        HuntedEye three = Check.line(STILL);
        three.risk(4);
        three.risk(3);
        x.years(40, 8);
        three.years(40, 8);
        Check.due("3 at first", Check.snapshot(x).equals(Check.snapshot(three)), true);
    }

    private static void yearsAtTheLast() {
        Check.holds(20, "then a draw of 8 and 1 more SYMBOLS are SENT (up to 9,999)");
        HuntedEye x = Check.line(STILL);
        Check.sendTo(x, 9998);
        x.risk(9);
        Check.due("T", x.years(1, 5), 9999);
        Check.due("T", x.years(40, 6), 9999);
        Check.due("ACTS all the same", x.count(6), 40);
        Check.due("no STATUS", Check.statusSum(x), 0);
        boolean changed = x.now(1) != 0 || x.now(2) != 0 || x.now(4) != 0 || x.now(7) != 0;
        Check.due("what RISK brings comes all the same", changed, true);
    }

    private static void status() {
        Check.holds(21, "NONE: no such what.");
        HuntedEye x = new HuntedEye();
        for (int what = 0; what < 4; what++) Check.due("0 at first", x.status(what), 0);
        for (int what : new int[] {-1, 4, Integer.MIN_VALUE, Integer.MAX_VALUE}) Check.due("no such what", x.status(what), NONE);
        Check.holds(21, "not UNDONE");
        Check.retell(x, STILL);
        x.hold(1);
        x.hold(1);
        x.hold(2);
        x.undo();
        told(x, 0, 1, 1);
        x.image();
        x.hold(0);
        x.back();
        told(x, 0, 1, 2);
        Check.holds(21, "An IMAGE keeps all but TEXTS, RISK, STATUS");
        Check.retell(x, STILL);
        told(x, 0, 1, 2);
    }

    private static void statusOfSeveral() {
        Check.holds(21, "how many ACTS were refused as there was no such one, no LINE (0), out of bounds (1), it is so (2), beyond the last T (3)");
        HuntedEye x = new HuntedEye();
        x.send(1);
        x.phase(1);
        x.hold(1);
        x.set(0, 0);
        x.drop();
        x.change(0, 1);
        x.dice(1);
        x.seek();
        told(x, 8, 0, 0);
        Check.holds(21, "of several the first");
        HuntedEye y = Check.line(STILL);
        Check.sendTo(y, 9999);
        y.send(0);
        y.send(61);
        told(y, 0, 2, 0);
        y.set(1, 999);
        told(y, 1, 2, 0);
        y.send(60);
        Check.due("STATUS 3", y.status(3), 1);
        // what is no ACT has no STATUS
        y.years(0, 1);
        y.undo();
        y.back();
        y.perform(0);
        y.risk(99);
        y.text(0);
        y.end(7);
        y.eye(9, 9);
        y.set(0, 64);
        Check.due("STATUS 0", y.status(0), 1);
        Check.due("STATUS 1", y.status(1), 2);
        Check.due("STATUS 2", y.status(2), 1);
        Check.due("STATUS 3", y.status(3), 1);
    }

    private static void undoForty() {
        Check.holds(22, "The latest ACT is UNDONE: how many still can be. NONE: none.");
        Check.due("no LINE", new HuntedEye().undo(), NONE);
        HuntedEye x = Check.line(STILL);
        Check.due("none", x.undo(), NONE);
        x.hold(1);
        Check.due("one", x.undo(), 0);
        Check.due("none", x.undo(), NONE);
        Check.holds(22, "the latest 40 can be UNDONE one by one");
        for (int acts : new int[] {39, 40, 41, 80, 81, 95}) {
            HuntedEye y = Check.line(STILL);
            for (int i = 1; i <= acts; i++) y.set(0, i <= 63 ? i : i + 1);
            int can = Math.min(acts, 40);
            Check.due("can be UNDONE of " + acts, y.count(6), can);
            for (int i = 1; i <= can; i++) {
                Check.due("still can be", y.undo(), can - i);
                int left = acts - i;
                Check.due("the TAP", Check.tap(y, 0, 0), left == 0 ? 64 : left <= 63 ? left : left + 1);
            }
            Check.due("none", y.undo(), NONE);
            y.set(0, -9);
            Check.due("one again", y.count(6), 1);
        }
    }

    private static void undoTogether() {
        Check.holds(22, "SYMBOLS SENT together are one ACT; the LOG, too");
        HuntedEye x = Check.line(LIVELY);
        x.send(60);
        Check.due("one ACT", x.count(6), 1);
        Check.due("none left", x.undo(), 0);
        HuntedEye fresh = Check.line(LIVELY);
        Check.due("as if never SENT", Check.snapshot(x).equals(Check.snapshot(fresh)), true);
        x.send(1);
        fresh.send(1);
        Check.due("the LOG is one long", x.count(5), 1);
        Check.due("Z", x.log(0, 1), fresh.log(0, 1));
        Check.due("x, too", x.log(0, 0), fresh.log(0, 0));
    }

    private static void undoLog() {
        Check.holds(22, "the LOG, too");
        // the LOG of 60 is there again even behind 40 ACTS of 60 SYMBOLS each
        HuntedEye x = Check.line(LIVELY);
        HuntedEye y = Check.line(LIVELY);
        x.send(60);
        y.send(60);
        for (int i = 0; i < 40; i++) x.send(60);
        for (int i = 0; i < 40; i++) x.undo();
        for (int i = 0; i < 60; i++) {
            for (int what = 0; what < 3; what++) Check.due("LOG " + i + ", " + what, x.log(i, what), y.log(i, what));
        }
        Check.due("no 61st", x.log(60, 0), HIDDEN);
        // and behind an IMAGE, whose LOG is older
        HuntedEye z = Check.line(LIVELY);
        z.send(60);
        z.image();
        for (int i = 0; i < 42; i++) z.send(60);
        z.back();
        for (int i = 0; i < 40; i++) z.send(59);
        for (int i = 0; i < 40; i++) z.undo();
        for (int i = 0; i < 60; i++) {
            for (int what = 0; what < 3; what++) Check.due("LOG " + i + " behind BACK, " + what, z.log(i, what), y.log(i, what));
        }
    }

    private static void undoErrors() {
        Check.holds(22, "The latest ACT is UNDONE: how many still can be. NONE: none.");
        // the signs of ERRORS are -1, 1, 1; VOTES of PHASE go by the one ahead, too
        String line = "pulse 40,30,20,10,20;word 1,1,0;level 50;gear 9;fore 1;back 0;lock ";
        HuntedEye x = Check.line(line + "9");
        int[] due = {0, 2, 4};
        for (int i = 0; i < 3; i++) {
            x.send(1);
            Check.due("VOTES of PHASE", x.now(18), due[i]);
            x.dice(5);
            x.undo();
        }
        Check.holds(43, "BACK: it is so again (no ACT can be UNDONE then)");
        HuntedEye y = Check.line(line + "9");
        for (int i = 0; i < 3; i++) {
            y.send(1);
            Check.due("VOTES of PHASE", y.now(18), due[i]);
            y.image();
            y.send(7);
            y.back();
        }
        Check.holds(38, "Apart, from as it is now; SYMBOLS go on behind 9,999");
        HuntedEye z = Check.line(line + "2");
        z.send(1);
        Check.due("PHASE that comes", z.coming(1, 11), 1);
        Check.due("PHASE", z.now(1), 0);
    }

    private static int runOf(String line, String script, int what) {
        HuntedEye x = Check.line(line);
        return x.run(Check.script(x, script), what);
    }

    private static void run() {
        Check.holds(25, "RUN: behind how many (0; NONE: all can be), WRONG (1). HIDDEN: no such ones, no LINE.");
        HuntedEye x = new HuntedEye();
        Check.script(x, "drop");
        Check.due("no LINE", x.run(0, 0), HIDDEN);
        Check.due("no LINE", x.run(0, 1), HIDDEN);
        Check.retell(x, STILL);
        Check.due("all can be", x.run(0, 0), NONE);
        for (int i : new int[] {-1, 1, 4, Integer.MIN_VALUE, Integer.MAX_VALUE}) Check.due("no such SCRIPT " + i, x.run(i, 0), HIDDEN);
        for (int i : new int[] {-1, 2, Integer.MIN_VALUE, Integer.MAX_VALUE}) Check.due("no such what " + i, x.run(0, i), HIDDEN);
        Check.due("nothing is DROPPED", x.now(7), 0);
        Check.holds(25, "behind how many STEPS the first is that can't be; how many were WRONG in it");
        String line = "pulse -20,10;fore 1;back 0;level 20;word 1;noise 2;train 5";
        String[] cannot = {"phase 0", "hold 0", "tap 0,64", "tap 1,3", "noise 2", "train 5", "drop;drop"};
        int[] behind = {0, 0, 0, 0, 0, 0, 1};
        for (int i = 0; i < cannot.length; i++) Check.due(cannot[i], runOf(line, cannot[i], 0), behind[i]);
        Check.due("no better PHASE", runOf("pulse 20", "seek", 0), 0);
        Check.due("by what was done ahead", runOf(line, "phase 2;hold 1;tap 0,3;noise 1;train 0;phase 2", 0), 5);
        Check.due("TRAIN is less by then", runOf(line, "send 5;train 0", 0), 1);
        Check.due("TRAIN is less by then", runOf(line, "send 4;train 0", 0), NONE);
        Check.due("a TAP that LEARNT", runOf(line, "send 1;tap 0,64", 0), NONE);
        Check.due("DROPPED ones are gone", runOf(line, "drop;send 1;drop", 0), NONE);
        Check.due("all twelve", runOf(line, "hold 1;hold 0;hold 1;hold 0;hold 1;hold 0;hold 1;hold 0;hold 1;hold 0;hold 1;hold 0", 0), NONE);
        Check.due("the twelfth", runOf(line, "hold 1;hold 0;hold 1;hold 0;hold 1;hold 0;hold 1;hold 0;hold 1;hold 0;hold 1;hold 1", 0), 11);
        Check.due("WRONG", runOf(line, "hold 1;send 7;hold 0", 1), 7);
        Check.due("WRONG up to there", runOf(line, "hold 1;send 7;hold 1;send 7", 1), 7);
        Check.due("none WRONG", runOf(line, "phase 0;send 7", 1), 0);
        Check.due("WRONG in it, not ahead of it", wrongBehindOthers(), 3);
    }

    private static void runApart() {
        Check.holds(25, "Apart, from as it is now");
        // all are WRONG by TAP 0 of 64, none by -64
        HuntedEye x = Check.line("pulse -20;fore 1;back 0;level 20;word 1");
        x.send(3);
        x.set(0, -64);
        x.send(1);
        int script = Check.script(x, "send 2;tap 0,64;send 2;tap 0,-64;send 1");
        Check.due("WRONG in it, by RUNS that ended", x.run(script, 1), 2);
        Check.due("all can be", x.run(script, 0), NONE);
        Check.due("WRONG ever stays", x.now(10), 3);
        Check.due("NOISE as it is by then", runOf(STILL, "noise 1;noise 0;noise 0", 0), 2);
        Check.due("TRAIN as it is by then", runOf(STILL, "train 1;train 0;train 0", 0), 2);
        Check.due("PHASE as it is by then", runOf(STILL, "phase 1;phase 0;phase 0", 0), 2);
        Check.due("HELD as it is by then", runOf(STILL, "hold 1;hold 0;hold 0", 0), 2);
        Check.due("a TAP as it is by then", runOf(STILL, "tap 0,1;tap 0,64;tap 0,64", 0), 2);
        // by a TAP below 0 the HEIGHT is greatest at PHASE 0
        String rising = "pulse 10,20,30,40;fore 1;back 0";
        Check.due("SOUGHT by TAPS and from the PHASE as they are by then", runOf(rising, "tap 0,-64;phase 3;seek;phase 0", 0), 3);
        Check.due("SOUGHT by TAPS and from the PHASE as they are by then", runOf(rising, "tap 0,-64;phase 3;seek;phase 3", 0), NONE);
        Check.due("SOUGHT already", runOf(rising, "seek;seek", 0), 1);
    }

    private static int wrongBehindOthers() {
        HuntedEye x = Check.line("pulse -20;fore 1;back 0;word 1");
        x.hold(1);
        x.send(9);
        return x.run(Check.script(x, "send 3"), 1);
    }

    private static void runAtTheLast() {
        Check.holds(25, "SYMBOLS go on behind 9,999, but not in RUN");
        HuntedEye x = Check.line(STILL);
        Check.sendTo(x, 9990);
        Check.due("up to the last", x.run(Check.script(x, "send 9"), 0), NONE);
        Check.due("one too many", x.run(Check.script(x, "send 10;drop"), 0), 0);
        Check.due("one too many behind others", x.run(Check.script(x, "send 5;send 4;drop;send 1"), 0), 3);
        Check.due("T stays", x.now(0), 9990);
        Check.due("no STATUS", Check.statusSum(x), 0);
        Check.holds(26, "DO: its STEPS as ACTS, up to there (no STATUS)");
        Check.due("none", x.perform(1), 0);
        Check.due("three", x.perform(2), 3);
        Check.due("T", x.now(0), 9999);
        Check.due("no STATUS", Check.statusSum(x), 0);
    }

    private static void perform() {
        Check.holds(26, "NONE: no such SCRIPT, no LINE.");
        HuntedEye x = new HuntedEye();
        Check.script(x, "send 2;hold 0;send 3");
        Check.due("no LINE", x.perform(0), NONE);
        Check.retell(x, STILL);
        for (int i : new int[] {-1, 1, 4, Integer.MIN_VALUE, Integer.MAX_VALUE}) Check.due("no such SCRIPT " + i, x.perform(i), NONE);
        Check.due("no STATUS", Check.statusSum(x), 0);
        Check.holds(26, "DO: how many STEPS were done.");
        Check.due("one", x.perform(0), 1);
        Check.due("T", x.now(0), 2);
        Check.due("ACTS", x.count(6), 1);
        Check.due("no STATUS", Check.statusSum(x), 0);
        int first = Check.script(x, "hold 0;hold 1");
        Check.due("none", x.perform(first), 0);
        Check.due("not HELD", x.now(2), 0);
        Check.due("ACTS", x.count(6), 1);
        Check.due("no STATUS", Check.statusSum(x), 0);
        seekByScript();
        Check.holds(26, "DO: its STEPS as ACTS, up to there (no STATUS)");
        int all = Check.script(x, "send 60;phase 3;hold 1;tap 0,-255;drop;noise 4;train 99");
        Check.due("all", x.perform(all), 7);
        int[] due = {62, 3, 1, 0, 4, 99, 1, 1};
        for (int what = 0; what < 8; what++) Check.due("now " + what, x.now(what), due[what]);
        Check.due("the TAP", Check.tap(x, 0, 0), -255);
        for (int left = 7; left > 0; left--) Check.due("UNDONE one by one", x.undo(), left);
        Check.due("T", x.now(0), 2);
        Check.due("the LOG", x.count(5), 2);
    }

    private static void seekByScript() {
        HuntedEye x = Check.line("pulse 10,20,30,40;fore 1;back 0");
        int script = Check.script(x, "seek;send 1;seek");
        Check.due("the second SEEKING finds none better", x.run(script, 0), 2);
        Check.due("two", x.perform(script), 2);
        Check.due("PHASE", x.now(1), 3);
        Check.due("ACTS", x.count(6), 2);
        Check.due("no STATUS", Check.statusSum(x), 0);
    }

    private static void performForty() {
        Check.holds(26, "All these are ACTS: the latest 40 can be UNDONE one by one");
        HuntedEye x = Check.line(STILL);
        int script = Check.script(x, "hold 1;send 1;hold 0;send 1;hold 1;send 1;hold 0;send 1;hold 1;send 1;hold 0;send 1");
        for (int i = 1; i <= 4; i++) {
            Check.due("twelve", x.perform(script), 12);
            Check.due("ACTS", x.count(6), Math.min(12 * i, 40));
        }
        for (int i = 39; i >= 0; i--) Check.due("one by one", x.undo(), i);
        Check.due("T behind the first eight", x.now(0), 4);
        Check.due("none", x.undo(), NONE);
    }

    private static void image() {
        Check.holds(42, "An IMAGE (instead of the one ahead): T. NONE: no LINE.");
        HuntedEye x = new HuntedEye();
        Check.due("no LINE", x.image(), NONE);
        Check.due("no STATUS", Check.statusSum(x), 0);
        Check.retell(x, STILL);
        Check.due("at T 0", x.image(), 0);
        x.send(7);
        Check.due("at T 7", x.image(), 7);
        Check.due("no ACT", x.count(6), 1);
        x.send(5);
        Check.due("instead of the one ahead", x.back(), 7);
        Check.sendTo(x, 9999);
        Check.due("at the last T", x.image(), 9999);
        x.undo();
        Check.due("BACK to the last T", x.back(), 9999);
    }

    private static void back() {
        Check.holds(43, "NONE: no IMAGE of this LINE.");
        HuntedEye x = new HuntedEye();
        Check.due("no LINE", x.back(), NONE);
        Check.retell(x, LIVELY);
        Check.due("no IMAGE", x.back(), NONE);
        x.send(3);
        x.image();
        Check.type(x, "pulse 61");
        x.text(0);
        Check.due("a refused LINE leaves it", x.back(), 3);
        Check.retell(x, LIVELY);
        Check.due("an IMAGE of another LINE", x.back(), NONE);
        Check.due("no STATUS", Check.statusSum(x), 0);
        Check.holds(43, "BACK: it is so again (no ACT can be UNDONE then)");
        HuntedEye y = Check.line(LIVELY);
        HuntedEye twin = Check.line(LIVELY);
        for (HuntedEye one : new HuntedEye[] {y, twin}) {
            one.dice(7);
            one.send(60);
            one.send(10);
            one.change(1, 30);
            one.hold(1);
            one.drop();
        }
        y.image();
        y.send(60);
        y.set(0, 1);
        y.dice(5);
        y.change(0, 0);
        y.years(9, 9);
        Check.due("T", y.back(), 70);
        Check.due("none can be UNDONE", y.count(6), 0);
        Check.due("none can be UNDONE", y.undo(), NONE);
        for (int i = 0; i < 6; i++) twin.undo();
        Check.due("the twin's are gone, too", twin.undo(), NONE);
        HuntedEye again = Check.line(LIVELY);
        again.dice(7);
        again.send(60);
        again.send(10);
        again.change(1, 30);
        again.hold(1);
        again.drop();
        again.image();
        again.back();
        Check.holds(43, "An IMAGE keeps all but TEXTS, RISK, STATUS (the LOG and x, too)");
        Check.due("all is so again", Check.snapshot(y).equals(Check.snapshot(again)), true);
        y.send(1);
        again.send(1);
        y.send(1);
        again.send(1);
        Check.due("x, too", y.log(0, 0), again.log(0, 0));
        Check.due("the one DROPPED, too", y.log(1, 0), HIDDEN);
        backLeavesTexts();
    }

    private static void backLeavesTexts() {
        Check.holds(43, "keeps all but TEXTS, RISK, STATUS");
        HuntedEye x = Check.line(STILL);
        x.image();
        Check.script(x, "drop");
        Check.type(x, "abc");
        x.risk(9);
        x.send(0);
        x.back();
        Check.due("SCRIPTS stay", x.count(1), 1);
        Check.due("the TAPE stays", x.count(2), 3);
        Check.due("RISK stays", x.count(4), 9);
        Check.due("STATUS stays", x.status(1), 1);
    }

    private static void count() {
        Check.holds(44, "HIDDEN for others.");
        HuntedEye x = new HuntedEye();
        int[] first = {0, 0, 0, 0, 3, 0, 0};
        for (int what = 0; what < 7; what++) Check.due("at first " + what, x.count(what), first[what]);
        for (int what : new int[] {-1, 7, Integer.MIN_VALUE, Integer.MAX_VALUE}) Check.due("others", x.count(what), HIDDEN);
        Check.holds(44, "0 TAPS, 1 SCRIPTS, 2 bytes of the TAPE, 3 T, 4 RISK, 5 how long the LOG is, 6 ACTS that can be UNDONE");
        Check.retell(x, "pulse 20;fore 3;back 3");
        for (int i = 0; i < 5; i++) Check.script(x, "drop");
        Check.due("a full TAPE", fill(x), 240);
        x.risk(0);
        for (int i = 0; i < 41; i++) x.send(60);
        int[] most = {6, 4, 240, 2460, 0, 60, 40};
        for (int what = 0; what < 7; what++) Check.due("at most " + what, x.count(what), most[what]);
    }

    private static int fill(HuntedEye x) {
        x.end(0);
        int full = 0x20202020;
        int bytes = 0;
        for (int i = 0; i < 13; i++) bytes = Math.max(bytes, x.feed(full, full, full, full, full));
        return bytes;
    }

    private static HuntedEye lively() {
        HuntedEye x = Check.line(LIVELY + ";fore 2;back 1");
        Check.script(x, "hold 1;hold 1");
        Check.script(x, "drop");
        Check.script(x, "drop");
        Check.script(x, "hold 0;drop");
        x.send(20);
        x.image();
        x.change(1, 9);
        x.send(7);
        x.drop();
        Check.type(x, "pulse 61;drop");
        return x;
    }

    private static void refusedChangesNothing() {
        Check.holds(22, "What is refused answers as told and changes nothing but STATUS.");
        HuntedEye x = lively();
        HuntedEye twin = lively();
        int full = 0x61616161;
        for (int i = 0; i < 11; i++) {
            x.feed(full, full, full, full, full);
            twin.feed(full, full, full, full, full);
        }
        x.feed(full, full, full, full, full);
        x.end(-1);
        x.end(241);
        x.text(0);
        x.text(1);
        x.text(2);
        x.risk(3);
        x.risk(10);
        x.send(0);
        x.send(61);
        x.phase(x.now(1));
        x.phase(4);
        x.hold(0);
        x.hold(2);
        x.set(0, Check.tap(x, 0, 0));
        x.set(0, 256);
        x.set(3, 0);
        x.drop();
        x.change(0, x.now(4));
        x.change(0, 5);
        x.change(1, x.now(5));
        x.change(1, 100);
        x.change(2, 0);
        x.years(0, 1);
        x.years(41, 1);
        x.perform(4);
        x.perform(3);
        Check.tap(x, 3, 0);
        Check.due("STATUS", x.status(0) * 100 + x.status(1) * 10 + x.status(2), 100 + 80 + 6);
        Check.due("all the rest is as it was", Check.snapshot(x).equals(Check.snapshot(twin)), true);
        Check.due("the SCRIPTS", x.step(3, 0, 0), 2);
        Check.due("UNDONE the same", x.undo(), twin.undo());
        Check.due("the IMAGE", x.back(), 20);
    }
}
