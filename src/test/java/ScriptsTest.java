/** Promises 25 and 26: RUN and DO. */
public final class ScriptsTest {
    public static void main(String[] args) {
        promise25And26AllSteps();
        promise25EachStepThatCannotBe();
        promise25LastT();
        promise25NoSuch();
        promise26IsDoneUpToThere();
        Check.finish();
    }

    private static void promise25And26AllSteps() {
        Check.holds(25, "RUN of a SCRIPT: behind how many STEPS the first is that can't be; how many were WRONG in it.");
        HuntedEye x = Check.line("pulse 20,40;word 0;fore 1;back 0;level 20");
        int script = Check.script(x, "send 3;drop;send 1;tap 0,-64;send 2;noise 2;train 7;hold 1;phase 0");
        // wrong: the dropped one (Z 0, bit 0) and the two by the tap below 0
        Check.due("25 behind how many: phase is 0", x.run(script, 0), 8);
        Check.due("25 wrong", x.run(script, 1), 3);
        Check.due("25 nothing is changed", x.now(0), 0);
        Check.due("25 no acts", x.count(6), 0);
        Check.due("26 done", x.perform(script), 8);
        Check.due("26 T", x.now(0), 6);
        Check.due("26 wrong", x.now(10), 3);
        Check.due("26 noise", x.now(4), 2);
        Check.due("26 train", x.now(5), 7);
        Check.due("26 held", x.now(2), 1);
        Check.due("26 a tap", Check.tap(x, 0, 0), -64);
        Check.due("26 steps are acts", x.count(6), 8);
        Check.due("26 no status", x.status(0) + x.status(1) + x.status(2) + x.status(3), 0);
        Check.due("26 logged", x.count(5), 6);
        Check.due("22 one by one", x.undo(), 7);
        Check.due("22 the hold", x.now(2), 0);
        int all = Check.script(x, "seek;send 1");
        Check.due("25 all can be: the phase is sought", x.run(all, 0), 0);
        x.set(0, 64);
        Check.due("25 all can be", x.run(all, 0), -1);
        Check.due("26 all", x.perform(all), 2);
        Check.due("26 sought", x.now(1), 1);
    }

    private static void refused(String first, String step) {
        HuntedEye x = Check.line("pulse 20,10;fore 1;back 1;level 20;noise 2;train 5;word 1");
        int script = Check.script(x, first.isEmpty() ? step : first + ";" + step);
        Check.due("25 can't be: " + first + ";" + step, x.run(script, 0), first.isEmpty() ? 0 : 1);
    }

    private static void promise25EachStepThatCannotBe() {
        Check.holds(25, "behind how many STEPS the first is that can't be");
        refused("", "phase 0");
        refused("phase 2", "phase 2");
        refused("", "hold 0");
        refused("hold 1", "hold 1");
        refused("", "tap 0,64");
        refused("", "tap 2,1");
        refused("tap 1,9", "tap 1,9");
        refused("drop", "drop");
        refused("", "noise 2");
        refused("", "train 5");
        refused("send 5", "train 0");
        refused("", "seek");
        refused("phase 1", "phase 1");
    }

    private static void promise25LastT() {
        Check.holds(25, "SYMBOLS go on behind 9,999, but not in RUN");
        HuntedEye x = Check.line("pulse 20;fore 1;back 0;level 20;word 1");
        for (int i = 0; i < 166; i++) x.send(60);
        int script = Check.script(x, "send 30;send 9;send 1");
        Check.due("25 beyond the last T", x.run(script, 0), 2);
        int other = Check.script(x, "send 40;drop");
        Check.due("25 beyond the last T", x.run(other, 0), 0);
        Check.due("26 none is done", x.perform(other), 0);
        Check.due("26 up to there", x.perform(script), 2);
        Check.due("26 T", x.now(0), 9999);
        Check.due("26 no status", x.status(3), 0);
    }

    private static void promise25NoSuch() {
        Check.holds(25, "RUN: behind how many (0; NONE: all can be), WRONG (1). HIDDEN: no such ones, no LINE.");
        HuntedEye x = new HuntedEye();
        Check.script(x, "drop");
        Check.due("25 no line", x.run(0, 0), HuntedEye.HIDDEN);
        Check.due("26 no line", x.perform(0), -1);
        Check.retell(x, "pulse 20");
        Check.due("25 no such script", x.run(1, 0), HuntedEye.HIDDEN);
        Check.due("25 no such script", x.run(-1, 0), HuntedEye.HIDDEN);
        Check.due("25 no such what", x.run(0, 2), HuntedEye.HIDDEN);
        Check.due("25 no such what", x.run(0, -1), HuntedEye.HIDDEN);
        Check.due("26 no such script", x.perform(1), -1);
        Check.due("26 no such script", x.perform(-1), -1);
        Check.due("26 no status", x.status(0), 0);
    }

    private static void promise26IsDoneUpToThere() {
        Check.holds(26, "DO: its STEPS as ACTS, up to there (no STATUS).");
        HuntedEye x = Check.line("pulse 20;fore 1;back 0;level 20;word 1");
        int script = Check.script(x, "send 1;hold 0;send 5");
        Check.due("26 up to there", x.perform(script), 1);
        Check.due("26 nothing behind it", x.now(0), 1);
        Check.due("26 no status", x.status(2), 0);
        int forty = Check.script(x, "hold 1;hold 0;hold 1;hold 0;hold 1;hold 0;hold 1;hold 0;hold 1;hold 0;hold 1;hold 0");
        for (int i = 0; i < 4; i++) Check.due("26 twelve", x.perform(forty), 12);
        Check.due("26 forty acts at most", x.count(6), 40);
    }
}
