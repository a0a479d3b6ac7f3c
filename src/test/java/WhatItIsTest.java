/** The document's first words: what the receiver is for, seen from outside. */
public final class WhatItIsTest {
    private static final int HIDDEN = HuntedEye.HIDDEN;
    /** Its ERROR is 0: nothing moves. */
    private static final String STILL = "pulse 20;fore 1;back 0;level 20;word 1";

    public static void main(String[] args) {
        undoesTheLine();
        weighsByTaps();
        takesOffWhatWasDecided();
        learnsBySigns();
        huntsThePhase();
        learnsNothingInTheDark();
        tellsHowWrongOnesSpread();
        readsTexts();
        tellsOfTheEye();
        tellsWhatWouldCome();
        livesYears();
        keepsTrack();
        Check.finish();
    }

    private static void undoesTheLine() {
        Check.holds(12, "A receiver that undoes what a line did to what was sent");
        // what was SENT one SYMBOL ago is louder than what is SENT now: WRONG wherever these are not the same
        String line = "pulse 30,0,0,0,40;fore 1;back 1;level 30;train 60;seed 5";
        HuntedEye held = Check.line(line);
        held.hold(1);
        int before = 0;
        int changes = 0;
        int wrong = 0;
        for (int i = 0; i < 30; i++) {
            wrong += held.send(1);
            int sent = held.ago(0, 0);
            changes += before != 0 && sent != before ? 1 : 0;
            before = sent;
        }
        Check.due("wrong without learning", wrong, changes);
        HuntedEye x = Check.line(line);
        Check.due("fewer by learning", x.send(30) < wrong, true);
        Check.due("none by then", x.send(30), 0);
        Check.due("none without training", x.send(30), 0);
    }

    private static void weighsByTaps() {
        Check.holds(12, "samples are weighed by taps");
        HuntedEye x = Check.line("pulse 20;fore 3;back 0;word 1");
        x.hold(1);
        x.send(2);
        x.set(0, 3);
        x.set(1, -50);
        x.set(2, 7);
        x.send(1);
        Check.due("Z", x.log(0, 1), 20 * (3 - 50 + 7));
    }

    private static void takesOffWhatWasDecided() {
        Check.holds(12, "what was decided earlier is taken off again");
        HuntedEye x = Check.line("pulse 20,0,0,0,10;fore 1;back 1;word 1,0,0,1");
        x.hold(1);
        x.set(1, 10);
        int[] sent = {1, -1, -1, 1};
        for (int i = 0; i < 4; i++) {
            x.send(1);
            Check.due("Z", x.log(0, 1), 64 * 20 * sent[i]);
        }
    }

    private static void learnsBySigns() {
        Check.holds(12, "taps learn by signs of errors alone");
        int[] levels = {21, 30, 99};
        for (int level : levels) {
            HuntedEye x = Check.line("pulse 20;fore 1;back 0;word 1;level " + level);
            x.send(1);
            Check.due("one more, however great the error is", Check.tap(x, 0, 0), 65);
        }
        HuntedEye y = Check.line(STILL);
        y.send(1);
        Check.due("no error", Check.tap(y, 0, 0), 64);
    }

    private static void huntsThePhase() {
        Check.holds(19, "the phase at which is sampled is hunted by the eye");
        HuntedEye x = Check.line("pulse 5,20,30,10,5,5;fore 1;back 0;word 1");
        Check.due("where the eye is highest", x.seek(), 2);
        x.send(1);
        Check.due("and sampled there", x.log(0, 0), 30);
    }

    private static void learnsNothingInTheDark() {
        Check.holds(12, "nothing is learnt while the line is dark");
        HuntedEye x = Check.line("pulse 3;fore 1;back 0;word 1;floor 4");
        x.send(3);
        Check.due("learnt", Check.tap(x, 0, 0), 67);
        x.send(30);
        Check.due("dark", x.now(3), 1);
        Check.due("nothing more", Check.tap(x, 0, 0), 67);
    }

    private static void tellsHowWrongOnesSpread() {
        Check.holds(32, "wrong decisions that are fed back spread, and for how long is told ahead");
        HuntedEye x = Check.line("pulse 20,0,0,0,15;fore 1;back 1;word 1,1,0,1,0,1,1,1;level 20");
        x.hold(1);
        x.set(1, 15);
        x.send(1);
        x.drop();
        // behind a WRONG one Z is 64 times 20 s0 + 30 s1: WRONG as long as bits go to and fro
        Check.due("the wrong one and those that it made wrong", x.send(6), 5);
        Check.due("their run", x.now(13), 5);
        Check.due("at most: it may never end", x.burst(0, 0), HIDDEN);
        x.set(1, 5);
        // 20 s0 + 20 s1: WRONG by s0 -1, s1 1 alone
        Check.due("by another tap it ends", x.burst(0, 0), 1);
        Check.due("by another tap it ends", x.burst(1, 0), 2);
    }

    private static void readsTexts() {
        Check.holds(5, "lines and scripts told as texts of words");
        HuntedEye x = new HuntedEye();
        Check.type(x, "pulse 20 ; fore 1");
        Check.due("a line", x.text(0), 3);
        Check.due("a script", Check.script(x, "send 5 ; drop"), 0);
        Check.due("what it does", x.perform(0), 2);
        Check.due("to the line", x.now(0), 5);
    }

    private static void tellsOfTheEye() {
        Check.holds(27, "what the eye is at each phase");
        HuntedEye x = Check.line("pulse 10,30,0,-10,0,40;fore 1;back 1;level 20");
        int[] eye = {64, 32, 32, 0};
        // at PHASE 1 Z is 64 times 30 s0 + 40 s1: the bit ahead decides
        for (int phase = 0; phase < 4; phase++) Check.due("at " + phase, x.eye(phase, 0), eye[phase]);
        Check.holds(30, "its map");
        Check.due("open places", x.map(0), 20);
        Check.holds(35, "which tap would open it");
        x.phase(1);
        Check.due("closed", x.opening(1, 2), -2 * 64 * 10);
        Check.due("tap 1 by more", x.improved(1, 0), 31);
        Check.due("open then", x.improved(1, 1), 2 * 64 * 21);
        x.set(1, 31);
        Check.due("open", x.eye(1, 0), 64);
    }

    private static void tellsWhatWouldCome() {
        Check.holds(36, "when taps are settled");
        HuntedEye x = Check.line("pulse 30;level 40;fore 1;back 0;word 1");
        Check.due("between 85 and 86", x.settled(1), 21);
        Check.holds(34, "what all earlier decisions would have given");
        HuntedEye y = Check.line("pulse 20;fore 1;back 1;word 1");
        y.set(1, 9);
        y.send(1);
        Check.due("-1", y.unrolled(0), 64 * (20 + 9));
        Check.due("1", y.unrolled(1), 64 * (20 - 9));
        Check.holds(40, "what a missing sample costs");
        HuntedEye z = Check.line("pulse 20;fore 1;back 0;word 0;level 20");
        Check.due("one wrong decision", z.worst(1, 1), 1);
        Check.holds(41, "odds of noise");
        HuntedEye w = Check.line("pulse 1;fore 1;back 0;word 1;noise 3;floor 0");
        Check.due("right by -1 .. 3", w.odds(1), 5);
    }

    private static void livesYears() {
        Check.holds(20, "years by draws");
        HuntedEye x = Check.line(STILL);
        x.risk(0);
        // draws of 8: 0, 4, 3
        Check.due("three years", x.years(3, 0), 1 + 5 + 4);
    }

    private static void keepsTrack() {
        Check.holds(23, "a log");
        HuntedEye x = Check.line(STILL);
        x.send(2);
        Check.due("a sample", x.log(1, 0), 20);
        Check.holds(21, "a status of what was refused");
        x.send(0);
        Check.due("out of bounds", x.status(1), 1);
        Check.holds(22, "acts undone");
        x.hold(1);
        Check.due("one is left", x.undo(), 1);
        Check.due("not held", x.now(2), 0);
        Check.holds(42, "images");
        Check.due("T", x.image(), 2);
        x.send(9);
        Check.due("as it was", x.back(), 2);
        Check.due("T", x.now(0), 2);
    }
}
