/** Promises 11, 13 to 22 and 42 to 44: ACTS, STATUS, UNDOING, YEARS, IMAGES, counts. */
public final class ActsTest {
    private static final String STILL = "pulse 20;fore 1;back 0;level 20;word 1";

    public static void main(String[] args) {
        promise11Risk();
        promise13Phase();
        promise14Hold();
        promise15Set();
        promise16Drop();
        promise17Change();
        promise18Dice();
        promise19Seek();
        promise19SeekTies();
        promise20YearsAsByHand();
        promise20YearsAnswer();
        promise20YearsRefused();
        promise21Status();
        promise22ByHand();
        promise22UndoForty();
        promise22UndoEachAct();
        promise22UndoLongSends();
        promise42Image();
        promise43BackOfTheLine();
        promise43BackToLog();
        promise44Count();
        Check.finish();
    }

    private static void promise11Risk() {
        Check.holds(11, "RISK (0 .. 9). False: out of bounds, it is so.");
        HuntedEye x = new HuntedEye();
        Check.due("11 it is so", x.risk(3), false);
        Check.due("11 least", x.risk(0), true);
        Check.due("11 least", x.count(4), 0);
        Check.due("11 most", x.risk(9), true);
        Check.due("11 beyond", x.risk(10), false);
        Check.due("11 below", x.risk(-1), false);
        Check.due("11 stays", x.count(4), 9);
        for (int i = 0; i < 4; i++) Check.due("11 no status", x.status(i), 0);
        Check.due("11 no act", x.count(6), 0);
    }

    private static void promise13Phase() {
        Check.holds(13, "PHASE is set: what it was. NONE: no LINE (STATUS 0), out of bounds (1), it is so (2).");
        HuntedEye x = new HuntedEye();
        Check.due("13 no line", x.phase(9), -1);
        Check.due("13 status", x.status(0), 1);
        Check.retell(x, STILL);
        Check.due("13 what it was", x.phase(3), 0);
        Check.due("13 phase", x.now(1), 3);
        Check.due("13 what it was", x.phase(0), 3);
        Check.due("13 it is so", x.phase(0), -1);
        Check.due("13 below", x.phase(-1), -1);
        Check.due("13 beyond", x.phase(4), -1);
        Check.due("13 status", x.status(2), 1);
        Check.due("13 status", x.status(1), 2);
        Check.due("13 acts", x.count(6), 2);
        HuntedEye y = Check.line("pulse 40,30,20,10,20;word 1,1,0;level 50;gear 9;lock 3;fore 1;back 0");
        y.send(2);
        y.phase(1);
        Check.due("13 votes of phase stay", y.now(18), 2);
    }

    private static void promise14Hold() {
        Check.holds(14, "HELD (1) or not (0): what it was. NONE: no LINE (STATUS 0), out of bounds (1), it is so (2).");
        HuntedEye x = new HuntedEye();
        Check.due("14 no line", x.hold(2), -1);
        Check.due("14 status", x.status(0), 1);
        Check.retell(x, "pulse 30;fore 1;back 0");
        Check.due("14 it is so", x.hold(0), -1);
        Check.due("14 what it was", x.hold(1), 0);
        Check.due("14 held", x.now(2), 1);
        x.send(5);
        Check.due("14 nothing learnt", x.now(11), 0);
        Check.due("14 it is so", x.hold(1), -1);
        Check.due("14 what it was", x.hold(0), 1);
        x.send(5);
        Check.due("14 learnt", x.now(11), 5);
        Check.due("14 out of bounds", x.hold(2), -1);
        Check.due("14 out of bounds", x.hold(-1), -1);
        Check.due("14 status", x.status(1), 2);
        Check.due("14 status", x.status(2), 2);
    }

    private static void promise15Set() {
        Check.holds(15, "A TAP is set: what it was. HIDDEN: no such TAP (STATUS 0), out of bounds (1), it is so (2).");
        HuntedEye x = new HuntedEye();
        int hidden = HuntedEye.HIDDEN;
        Check.due("15 no line", x.set(0, 999), hidden);
        Check.due("15 status", x.status(0), 1);
        Check.retell(x, "pulse 30;fore 1;back 1;gear 5;word 1");
        x.send(3);
        Check.due("15 votes", Check.tap(x, 0, 1), 3);
        Check.due("15 it is so", x.set(0, 64), hidden);
        Check.due("15 votes stay", Check.tap(x, 0, 1), 3);
        Check.due("15 what it was", x.set(0, -255), 64);
        Check.due("15 set", Check.tap(x, 0, 0), -255);
        Check.due("15 its votes are 0", Check.tap(x, 0, 1), 0);
        Check.due("15 not others'", Check.tap(x, 1, 1), -2);
        Check.due("15 what it was", x.set(1, 255), 0);
        Check.due("15 beyond", x.set(1, 256), hidden);
        Check.due("15 below", x.set(1, -256), hidden);
        Check.due("15 no such tap", x.set(2, 256), hidden);
        Check.due("15 no such tap", x.set(-1, 0), hidden);
        Check.due("15 status", x.status(0), 3);
        Check.due("15 status", x.status(1), 2);
        Check.due("15 status", x.status(2), 1);
    }

    private static void promise16Drop() {
        Check.holds(16, "The next SAMPLE is DROPPED: T. NONE: no LINE (STATUS 0), it is so (2).");
        HuntedEye x = new HuntedEye();
        Check.due("16 no line", x.drop(), -1);
        Check.retell(x, STILL);
        x.send(7);
        Check.due("16 T", x.drop(), 7);
        Check.due("16 dropped", x.now(7), 1);
        Check.due("16 it is so", x.drop(), -1);
        Check.due("16 status", x.status(0), 1);
        Check.due("16 status", x.status(2), 1);
        x.send(2);
        Check.due("16 the next one was", x.log(1, 0), HuntedEye.HIDDEN);
        Check.due("16 only that", x.log(0, 0), 20);
        Check.due("16 again", x.drop(), 9);
    }

    private static void promise17Change() {
        Check.holds(17, "NOISE (0 .. 4; what 0), TRAIN (0 .. 99; 1) is set: what it was. NONE: no LINE (STATUS 0), out of bounds (1), it is so (2).");
        HuntedEye x = new HuntedEye();
        Check.due("17 no line", x.change(0, 1), -1);
        Check.due("17 no line is first", x.change(7, 1), -1);
        Check.due("17 status", x.status(0), 2);
        Check.retell(x, STILL + ";noise 2;train 8");
        Check.due("17 noise", x.change(0, 4), 2);
        Check.due("17 noise", x.now(4), 4);
        Check.due("17 train", x.change(1, 99), 8);
        Check.due("17 train", x.now(5), 99);
        Check.due("17 it is so", x.change(0, 4), -1);
        Check.due("17 it is so", x.change(1, 99), -1);
        Check.due("17 status", x.status(2), 2);
        Check.due("17 beyond", x.change(0, 5), -1);
        Check.due("17 below", x.change(0, -1), -1);
        Check.due("17 beyond", x.change(1, 100), -1);
        Check.due("17 below", x.change(1, -1), -1);
        Check.due("17 no such what", x.change(2, 0), -1);
        Check.due("17 no such what", x.change(-1, 0), -1);
        Check.due("17 status", x.status(1), 6);
        Check.due("17 to 0", x.change(0, 0), 4);
        Check.due("17 to 0", x.change(1, 0), 99);
        Check.due("17 acts", x.count(6), 4);
    }

    private static void promise18Dice() {
        Check.holds(18, "DICE: x is that: T. NONE: no LINE (STATUS 0). (An ACT, however it was.)");
        HuntedEye x = new HuntedEye();
        Check.due("18 no line", x.dice(1), -1);
        Check.due("18 status", x.status(0), 1);
        Check.retell(x, STILL + ";noise 4");
        x.send(3);
        Check.due("18 T", x.dice(-77L), 3);
        Check.due("18 however it was", x.dice(-77L), 3);
        Check.due("18 acts", x.count(6), 3);
        x.send(1);
        long first = -77L * 6364136223846793005L + 1442695040888963407L;
        int sample = 20 + (int) ((first >>> 33) % 9) - 4;
        Check.due("18 the draw", x.log(0, 0), sample);
        x.undo();
        x.undo();
        x.undo();
        x.send(1);
        HuntedEye y = Check.line(STILL + ";noise 4");
        y.send(4);
        Check.due("18 x is undone, too", x.log(0, 0), y.log(0, 0));
        Check.due("18 status", x.status(0), 1);
    }

    private static void promise19Seek() {
        Check.holds(19, "PHASE is SOUGHT. A SEEKING: as long as a PHASE next to it (one less, one more) has a greater HEIGHT, PHASE is that of these whose HEIGHT is greatest");
        HuntedEye x = new HuntedEye();
        Check.due("19 no line", x.seek(), -1);
        Check.due("19 status", x.status(0), 1);
        Check.retell(x, "pulse 10,30,20,40;fore 1;back 0");
        Check.due("19 up to the top next to it", x.seek(), 1);
        Check.due("19 phase", x.now(1), 1);
        Check.due("19 none is better next to it", x.seek(), -1);
        Check.due("19 status", x.status(2), 1);
        x.phase(2);
        Check.due("19 the greater one", x.seek(), 3);
        Check.retell(x, "pulse 10,20,30,40;fore 1;back 0");
        Check.due("19 as long as one is better", x.seek(), 3);
        Check.due("19 one act", x.count(6), 1);
        x.undo();
        Check.due("19 undone", x.now(1), 0);
        Check.retell(x, "pulse 40,30,20;fore 1;back 0");
        x.phase(3);
        Check.due("19 downwards", x.seek(), 0);
    }

    private static void promise19SeekTies() {
        Check.holds(19, "of equal ones the lower");
        HuntedEye x = Check.line("pulse 30,10,30;fore 1;back 0");
        x.phase(1);
        Check.due("19 of equal ones the lower", x.seek(), 0);
        HuntedEye y = Check.line("pulse 30,30,30,30;fore 1;back 0");
        Check.due("19 equal is no better", y.seek(), -1);
        // heights go by the taps as they are: with a tap below 0 the least pulse is the highest
        HuntedEye z = Check.line("pulse 30,20,10,5;fore 1;back 0");
        z.set(0, -64);
        Check.due("19 by the taps", z.seek(), 3);
    }

    private static long turn(long y) {
        return y * 6364136223846793005L + 1442695040888963407L;
    }

    private static int draw(long y, int j) {
        return (int) ((y >>> 33) % j);
    }

    private static void promise20YearsAsByHand() {
        Check.holds(20, "YEARS by a seed: n (1 .. 40) times: a draw of 10: below RISK (0 .. 9; 3 at first): a draw of 4: 0 the next SAMPLE is DROPPED, 1 PHASE is a draw of 4, 2 NOISE is a draw of 5, 3 HELD is changed about; then a draw of 8 and 1 more SYMBOLS are SENT (up to 9,999).");
        String line = "pulse 25,40,10,5,12,-6;delay 1;track 1;lock 4;noise 1";
        for (int risk = 0; risk <= 9; risk += 3) {
            HuntedEye x = Check.line(line);
            HuntedEye hand = Check.line(line);
            x.risk(risk);
            long seed = 1234567 * (risk + 1L);
            long y = seed;
            for (int i = 0; i < 25; i++) {
                y = turn(y);
                if (draw(y, 10) < risk) {
                    y = turn(y);
                    int what = draw(y, 4);
                    if (what == 0) hand.drop();
                    if (what == 1 || what == 2) y = turn(y);
                    if (what == 1) hand.phase(draw(y, 4));
                    if (what == 2) hand.change(0, draw(y, 5));
                    if (what == 3) hand.hold(1 - hand.now(2));
                }
                y = turn(y);
                hand.send(draw(y, 8) + 1);
            }
            Check.due("20 T", x.years(25, seed), hand.now(0));
            for (int what = 0; what < 19; what++) Check.due("20 now " + what, x.now(what), hand.now(what));
            for (int tap = 0; tap < 4; tap++) Check.due("20 tap", Check.tap(x, tap, 0), Check.tap(hand, tap, 0));
            for (int i = 0; i < 60; i++) Check.due("20 log", x.log(i, 1), hand.log(i, 1));
            Check.due("20 each time is one act", x.count(6), 25);
            Check.due("20 no status", x.status(0) + x.status(1) + x.status(2) + x.status(3), 0);
        }
        HuntedEye x = Check.line(line);
        x.years(3, 5);
        int t = x.now(0);
        x.years(1, 77);
        Check.due("20 the latest is undone", x.undo(), 3);
        Check.due("20 T then", x.now(0), t);
        Check.due("20 forty", x.years(40, 9) > t, true);
        Check.due("20 forty acts", x.count(6), 40);
    }

    private static void promise20YearsAnswer() {
        Check.holds(20, "YEARS: T. NONE: no LINE, n out of bounds.");
        // a draw of 10: 1, of 4: 1, of 4: 0 (PHASE), of 8: 6; a draw of 10: 5, of 8: 6
        HuntedEye x = Check.line(STILL);
        x.phase(3);
        Check.due("20 seven symbols", x.years(1, 77), 7);
        Check.due("20 the phase", x.now(1), 0);
        HuntedEye y = Check.line(STILL);
        Check.due("20 fourteen symbols", y.years(2, 77), 14);
        // a draw of 10: 7, of 8: 0
        HuntedEye z = Check.line(STILL);
        z.risk(7);
        Check.due("20 not below risk: one symbol", z.years(1, 0), 1);
        // below RISK: a draw of 4: 0 (DROPPED), of 8: 1
        z.risk(8);
        Check.due("20 below risk: two more", z.years(1, 0), 3);
        Check.due("20 the first of these is missing", z.log(1, 0), HuntedEye.HIDDEN);
        Check.due("20 no line", new HuntedEye().years(1, 1), -1);
    }

    private static void promise20YearsRefused() {
        Check.holds(20, "NONE: no LINE, n out of bounds.");
        HuntedEye x = new HuntedEye();
        Check.due("20 no line", x.years(1, 1), -1);
        Check.retell(x, STILL);
        Check.due("20 too few", x.years(0, 1), -1);
        Check.due("20 too many", x.years(41, 1), -1);
        Check.due("20 nothing came", x.now(0), 0);
        for (int i = 0; i < 4; i++) Check.due("20 no status", x.status(i), 0);
        for (int i = 0; i < 166; i++) x.send(60);
        x.send(36);
        x.risk(0);
        x.years(20, 3);
        Check.due("20 up to the last", x.now(0), 9999);
        Check.due("20 acts all the same", x.count(6), 40);
        for (int i = 0; i < 20; i++) x.undo();
        Check.due("20 undone", x.now(0), 9996);
    }

    private static void promise21Status() {
        Check.holds(21, "STATUS: how many ACTS were refused as there was no such one, no LINE (0), out of bounds (1), it is so (2), beyond the last T (3); of several the first; not UNDONE.");
        HuntedEye x = new HuntedEye();
        x.undo();
        x.back();
        x.image();
        x.perform(0);
        x.years(0, 0);
        x.end(5);
        x.text(0);
        for (int i = 0; i < 4; i++) Check.due("21 these are no acts", x.status(i), 0);
        Check.holds(21, "STATUS. NONE: no such what.");
        x.drop();
        x.send(0);
        Check.due("21 no line", x.status(0), 2);
        Check.due("21 no such what", x.status(4), -1);
        Check.due("21 no such what", x.status(-1), -1);
        Check.retell(x, STILL);
        x.send(1);
        x.send(0);
        x.undo();
        Check.due("21 not undone", x.status(1), 1);
        x.image();
        x.phase(0);
        x.back();
        Check.due("21 not in an image", x.status(2), 1);
    }

    private static void promise22ByHand() {
        Check.holds(22, "By hand: SYMBOLS are SENT; PHASE, HELD, a TAP (its VOTES become 0), NOISE, TRAIN are set; the next SAMPLE is DROPPED; PHASE is SOUGHT.");
        HuntedEye x = Check.line("pulse 10,20,30;fore 1;back 0;word 1;gear 9");
        int[] asked = {0, 1, 2, 0, 4, 5, 7, 1};
        int[] due = {3, 1, 1, 0, 2, 7, 1, 2};
        for (int act = 0; act < 8; act++) {
            if (act == 3) Check.due("22 votes", Check.tap(x, 0, 1), 3);
            switch (act) {
                case 0: x.send(3); break;
                case 1: x.phase(1); break;
                case 2: x.hold(1); break;
                case 3: x.set(0, 60); break;
                case 4: x.change(0, 2); break;
                case 5: x.change(1, 7); break;
                case 6: x.drop(); break;
                default: x.seek();
            }
            Check.due("22 one act more", x.count(6), act + 1);
            Check.due("22 what it did " + act, act == 3 ? Check.tap(x, 0, 1) : x.now(asked[act]), due[act]);
        }
        Check.due("22 the tap", Check.tap(x, 0, 0), 60);
    }

    private static void promise22UndoForty() {
        Check.holds(22, "the latest 40 can be UNDONE one by one");
        HuntedEye x = Check.line(STILL);
        Check.due("22 none", x.undo(), -1);
        for (int i = 1; i <= 45; i++) {
            x.send(i);
            Check.due("22 acts", x.count(6), Math.min(i, 40));
        }
        int t = 45 * 46 / 2;
        for (int i = 45; i > 5; i--) {
            Check.due("22 how many still can be", x.undo(), i - 6);
            t -= i;
            Check.due("22 T", x.now(0), t);
        }
        Check.due("22 none", x.undo(), -1);
        Check.due("22 T stays", x.now(0), 15);
        x.send(1);
        Check.due("22 acts again", x.undo(), 0);
        Check.due("22 T", x.now(0), 15);
    }

    /** Some 270 calls: of one object at most once, since it is used for 512 at most. */
    private static String told(HuntedEye x) {
        StringBuilder s = new StringBuilder();
        for (int i = 0; i < 19; i++) s.append(x.now(i)).append(' ');
        for (int i = 0; i < x.count(0); i++) s.append(x.tap(i, 0)).append('/').append(x.tap(i, 1)).append(' ');
        for (int i = 0; i < 6; i++) s.append(x.ago(0, i)).append(' ');
        for (int i = 0; i < 3; i++) s.append(x.ago(1, i)).append(' ').append(x.ago(2, i)).append(' ');
        for (int i = 0; i < 60; i++) s.append(x.log(i, 0)).append(' ').append(x.log(i, 1)).append(' ').append(x.log(i, 2)).append(' ');
        for (int i = 0; i < 8; i++) s.append(x.unrolled(i)).append(' ');
        for (int i = 0; i < 13; i++) s.append(x.coming(20, i)).append(' ');
        return s.append(x.count(3)).append(' ').append(x.count(5)).toString();
    }

    private static void goBesideTheHigher(HuntedEye x) {
        for (int p = 0; p < 3; p++) {
            int rise = x.opening(p + 1, 2) - x.opening(p, 2);
            if (rise != 0) x.phase(rise > 0 ? p : p + 1);
        }
    }

    private static HuntedEye aheadOfAct(int act) {
        HuntedEye x = Check.line("pulse 25,40,10,5,12,-6;delay 1;track 1;lock 4;noise 1;gear 2;floor 20");
        x.send(30);
        Check.script(x, "hold 1;drop;send 9");
        x.send(3 + 3 * act);
        if (act == 8) goBesideTheHigher(x);
        return x;
    }

    private static void promise22UndoEachAct() {
        Check.holds(22, "All these are ACTS: the latest 40 can be UNDONE one by one");
        for (int act = 0; act < 11; act++) {
            HuntedEye x = aheadOfAct(act);
            int acts = x.count(6);
            int done = 1;
            switch (act) {
                case 0: x.send(60); break;
                case 1: x.phase((x.now(1) + 1) % 4); break;
                case 2: x.hold(1); break;
                case 3: x.set(0, 3); break;
                case 4: x.drop(); break;
                case 5: x.change(0, 4); break;
                case 6: x.change(1, 50); break;
                case 7: x.dice(55); break;
                case 8: x.seek(); break;
                case 9: x.years(3, 8); done = 3; break;
                default: done = x.perform(0);
            }
            Check.due("22 acts of " + act, x.count(6), acts + done);
            for (int i = 0; i < done; i++) x.undo();
            Check.due("22 undone " + act, told(x).equals(told(aheadOfAct(act))), true);
        }
    }

    private static HuntedEye sent(int times) {
        HuntedEye x = Check.line("pulse 25,40,10,5,12,-6;noise 3");
        for (int i = 0; i < times; i++) x.send(60);
        return x;
    }

    private static void promise22UndoLongSends() {
        Check.holds(22, "SYMBOLS SENT together are one ACT; the LOG, too");
        HuntedEye x = sent(45);
        for (int i = 0; i < 40; i++) x.undo();
        Check.due("22 the log of forty acts ago", told(x).equals(told(sent(5))), true);
    }

    private static HuntedEye aheadOfImage() {
        HuntedEye x = Check.line("pulse 25,40,10,5,12,-6;delay 1;track 1;lock 4;noise 1;gear 2");
        x.send(40);
        x.drop();
        return x;
    }

    private static void promise42Image() {
        Check.holds(42, "An IMAGE (instead of the one ahead): T. NONE: no LINE.");
        Check.due("42 no line", new HuntedEye().image(), -1);
        String before = told(aheadOfImage());
        for (int more = 0; more < 2; more++) {
            HuntedEye x = aheadOfImage();
            Check.due("43 no image", x.back(), -1);
            int acts = x.count(6);
            Check.due("42 T", x.image(), 40);
            Check.due("42 no act", x.count(6), acts);
            x.send(50);
            x.set(0, -9);
            x.risk(8);
            for (int i = 0; i <= more; i++) {
                Check.due("43 again and again", x.back(), 40);
                if (i < more) x.send(1);
            }
            Check.due("43 it is so again", told(x).equals(before), true);
            Check.due("43 risk is not kept", x.count(4), 8);
            Check.due("43 nothing can be undone", x.undo(), -1);
            x.send(5);
            Check.due("42 instead of the one ahead", x.image(), 45);
            x.undo();
            Check.due("43 also what was undone", x.back(), 45);
        }
    }

    private static void promise43BackOfTheLine() {
        Check.holds(43, "BACK: T. NONE: no IMAGE of this LINE.");
        HuntedEye x = Check.line(STILL);
        x.send(1);
        x.image();
        Check.retell(x, STILL);
        Check.due("43 an image of another line", x.back(), -1);
        Check.due("42 of a new line", x.image(), 0);
        x.send(9);
        Check.script(x, "drop");
        Check.due("43 a script leaves it", x.back(), 0);
        Check.due("43 texts stay", x.count(1), 1);
        Check.due("43 no log", x.count(5), 0);
    }

    private static void promise43BackToLog() {
        Check.holds(43, "An IMAGE keeps all but TEXTS, RISK, STATUS (the LOG and x, too)");
        for (int undone = 0; undone < 2; undone++) {
            HuntedEye x = sent(45);
            x.image();
            for (int i = 0; i < 100; i++) x.send(60);
            x.back();
            if (undone == 1) {
                x.send(60);
                x.undo();
            }
            Check.due("43 the log, too", told(x).equals(told(sent(45))), true);
        }
    }

    private static void promise44Count() {
        Check.holds(44, "0 TAPS, 1 SCRIPTS, 2 bytes of the TAPE, 3 T, 4 RISK, 5 how long the LOG is, 6 ACTS that can be UNDONE. HIDDEN for others.");
        HuntedEye x = Check.line("pulse 20;fore 3;back 1");
        x.send(9);
        x.hold(1);
        Check.script(x, "drop");
        Check.script(x, "seek");
        x.risk(5);
        Check.type(x, "abc");
        int[] counts = {4, 2, 3, 9, 5, 9, 2};
        for (int i = 0; i < counts.length; i++) Check.due("44 count " + i, x.count(i), counts[i]);
        Check.due("44 others", x.count(7), HuntedEye.HIDDEN);
        Check.due("44 others", x.count(-1), HuntedEye.HIDDEN);
        x.send(60);
        Check.due("44 the log has sixty", x.count(5), 60);
        Check.due("44 T", x.count(3), 69);
    }
}
