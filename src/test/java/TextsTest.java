/** Promises 1 to 7 and 24: a new object, the TAPE, LINES and SCRIPTS. */
public final class TextsTest {
    private static final String STEPS_12 = "drop;seek;drop;seek;drop;seek;drop;seek;drop;seek;drop;seek";
    private static final String ALL_WORDS = "word 1,0;lock 3;track 1;seed 127;train 99;noise 4;floor 60;gear 9;level 99;"
        + "delay 2;back 3;fore 3;pulse -60,0,60";

    public static void main(String[] args) {
        promise1NewObject();
        promise2Feed();
        promise3End();
        promise4ClausesAndNumbers();
        promise4FaultOfLines();
        promise4BoundsOfLines();
        promise4FaultOfScripts();
        promise4EitherSort();
        promise5TextIsTheLine();
        promise5TextRefused();
        promise5AnotherLine();
        promise5Scripts();
        promise6Rule();
        promise7Told();
        promise24Step();
        Check.finish();
    }

    private static void promise1NewObject() {
        Check.holds(1, "No LINE.");
        HuntedEye x = new HuntedEye();
        int[] counts = {0, 0, 0, 0, 3, 0, 0};
        for (int i = 0; i < counts.length; i++) Check.due("1 count " + i, x.count(i), counts[i]);
        for (int i = 0; i < 4; i++) Check.due("1 status " + i, x.status(i), 0);
        Check.due("1 rule", x.rule(1), -1);
        Check.due("1 now", x.now(0), HuntedEye.HIDDEN);
        Check.due("1 ago", x.ago(0, 0), HuntedEye.HIDDEN);
        Check.due("1 tap", Check.tap(x, 0, 0), HuntedEye.HIDDEN);
        Check.due("1 log", x.log(0, 0), HuntedEye.HIDDEN);
        Check.due("1 step", x.step(0, 0, 0), HuntedEye.HIDDEN);
        Check.due("1 NONE", HuntedEye.NONE, -1);
        Check.due("1 HIDDEN", HuntedEye.HIDDEN, -1000000000);
    }

    private static void promise2Feed() {
        Check.holds(2, "Twenty bytes more come to the TAPE (of each number the highest first; bytes of 0 are left out): how many it has. NONE: more than 240.");
        HuntedEye x = new HuntedEye();
        Check.due("2 only zeros", x.feed(0, 0, 0, 0, 0), 0);
        // "pulse 12" with bytes of 0 anywhere between, the highest byte of each number first
        Check.due("2 zeros left out", x.feed(0x70007500, 0x00006c73, 0x65000000, 0x20310000, 0x00000032), 8);
        Check.due("2 taken as a line", x.text(0), 4);
        Check.due("2 order of bytes", x.told(0, 0), 12);
        int full = 0x61616161;
        for (int i = 1; i <= 11; i++) Check.due("2 feed", x.feed(full, full, full, full, full), 20 * i);
        Check.due("2 to 230", x.feed(full, full, 0x61610000, 0, 0), 230);
        Check.due("2 eleven are too many", x.feed(full, full, 0x61616100, 0, 0), -1);
        Check.due("2 nothing of it came", x.count(2), 230);
        Check.due("2 to 240", x.feed(full, full, 0x00006161, 0, 0), 240);
        Check.due("2 one is too many", x.feed(0, 0, 0, 0, 1), -1);
        Check.due("2 none more may come", x.feed(0, 0, 0, 0, 0), 240);
        HuntedEye y = new HuntedEye();
        Check.due("2 bytes above 127", y.feed(-1, 0x80000000, 0, 0, 0), 5);
        Check.due("2 any other byte", y.fault(0), 0);
    }

    private static void promise3End() {
        Check.holds(3, "The TAPE has its first n bytes alone. False: n.");
        HuntedEye x = new HuntedEye();
        Check.due("3 empty", x.end(0), true);
        Check.due("3 beyond", x.end(1), false);
        Check.type(x, "pulse 12");
        Check.due("3 below", x.end(-1), false);
        Check.due("3 beyond", x.end(9), false);
        Check.due("3 as before", x.count(2), 8);
        Check.due("3 all", x.end(8), true);
        Check.due("3 its first seven", x.end(7), true);
        Check.due("3 seven", x.count(2), 7);
        Check.due("3 what was cut is gone", x.end(8), false);
        Check.due("3 line", x.text(0), 4);
        Check.due("3 the first ones stay", x.told(0, 0), 1);
    }

    private static void promise4ClausesAndNumbers() {
        Check.holds(4, "A LINE is a TEXT: CLAUSES with ; between, each a WORD and its numbers with , between, every WORD once at most, in any order");
        line("pulse 1,2;word 1,0;fore 3", -1);
        line("fore 3;word 1,0;pulse 1,2", -1);
        line("word 1,0;pulse 1,2;fore 3", -1);
        line("pulse 1,2,word 1", 10);
        line("pulse 1 word 1", 8);
        line("pulse 1;2", 8);
        line("pulse;1", 5);
        line("pulse,1", 5);
        line("1 pulse", 0);
        line("pulse 1;word 1 0", 15);
        line("pulse 1;word 1;0", 15);
    }

    private static void line(String text, int fault) {
        Check.due("4 line '" + text + "'", Check.lineFault(text), fault);
    }

    private static void script(String text, int fault) {
        Check.due("4 script '" + text + "'", Check.scriptFault(text), fault);
    }

    private static void promise4FaultOfLines() {
        Check.holds(4, "FAULT: where the first part begins that can't be");
        line("", 0);
        line("   ", 3);
        line("pulse 1", -1);
        line("pulse1", -1);
        line("pulse-5", -1);
        line("  pulse  1  ,  2  ;  fore  3  ", -1);
        line(ALL_WORDS, -1);
        line("pulse", 5);
        line("pulse  ", 7);
        line("pulse 1,", 8);
        line("pulse 1, ", 9);
        line("pulse 1;", 8);
        line("pulse 1; ", 9);
        line(ALL_WORDS + ";", ALL_WORDS.length() + 1);
        line(ALL_WORDS + ";fore 1", ALL_WORDS.length() + 1);
        line("fore 2", 6);
        line("fore 2  ", 8);
        line("fore 2;word 1", 13);
        line("pulsx 1", 0);
        line("pulsefore 1", 0);
        line("puls 1", 0);
        line("xulse 1", 0);
        line("Pulse 1", 0);
        line("5", 0);
        line(";pulse 1", 0);
        line(",pulse 1", 0);
        line("pulse 1;;fore 1", 8);
        line("pulse 1;send 5", 8);
        line("pulse 1;pulse 2", 8);
        line("fore 1; fore 2;pulse 1", 8);
        line("pulse 1;word 1;back 1;word 1", 22);
        line("pulse ;fore 1", 6);
        line("pulse ,1", 6);
        line("pulse x", 6);
        line("pulse 1,,2", 8);
        line("pulse 1,;fore 1", 8);
        line("pulse 1,fore 1", 8);
        line("pulse --1", 6);
        line("pulse -", 6);
        line("pulse - 1", 6);
        line("pulse -x", 6);
        line("pulse 1-", 7);
        line("pulse 1-2", 7);
        line("pulse 1 2", 8);
        line("pulse 1 fore 2", 8);
        line("pulse 1\t", 7);
        line("pulse 1;fore 2x", 14);
        line("pulse 1!", 7);
        line("pulse " + (char) 233, 6);
        line("pulse 1;fore 1,2", 14);
        line("pulse 1;fore 1,", 14);
        line("pulse 1;fore 1 , 2", 15);
        line("pulse 0,0,0,0,0,0,0,0,0,0,0,0,0,0,0,0", -1);
        line("pulse 0,0,0,0,0,0,0,0,0,0,0,0,0,0,0,0,0", 37);
        line("pulse 0,0,0,0,0,0,0,0,0,0,0,0,0,0,0,0,", 37);
        line("pulse 1;word 0,0,0,0,0,0,0,0,0,0,0,0,0,0,0,1", -1);
        line("pulse 1;word 0,0,0,0,0,0,0,0,0,0,0,0,0,0,0,1,1", 44);
        line("pulse 1;word 0,2", 15);
        line("pulse 000000000000000000000000000060", -1);
        line("pulse -000000000000000000000000000060", -1);
        line("pulse 0000061", 6);
        line("pulse 99999999999999999999999999", 6);
        line("pulse 4294967297", 6);
        line("pulse -0", -1);
        // of several the first
        line("pulse 61;pulse 1;x", 6);
    }

    private static void promise4BoundsOfLines() {
        Check.holds(4, "a number out of bounds");
        String[] words = {"fore", "back", "delay", "level", "gear", "floor", "noise", "train", "seed", "track", "lock", "word"};
        int[] lows = {1, 0, 0, 1, 1, 0, 0, 0, 1, 0, 0, 0};
        int[] highs = {3, 3, 2, 99, 9, 60, 4, 99, 127, 1, 9, 1};
        for (int i = 0; i < words.length; i++) {
            String start = "pulse 1;" + words[i] + " ";
            line(start + lows[i], -1);
            line(start + highs[i], -1);
            line(start + (lows[i] - 1), start.length());
            line(start + (highs[i] + 1), start.length());
            // all but word have one number
            if (i < 11) line(start + lows[i] + "," + lows[i], start.length() + 1);
        }
        line("pulse -60", -1);
        line("pulse 60", -1);
        line("pulse -61", 6);
        line("pulse 61", 6);
    }

    private static void promise4FaultOfScripts() {
        Check.holds(4, "STEPS with ; between, 1 to 12, each a WORD and its numbers with , between: send (1 .. 60)");
        script("", 0);
        script(" ", 1);
        script("send 1;send 1", -1);
        script("send 60;phase 3;hold 1;tap 5,255;drop;noise 4;train 99;seek", -1);
        script(" send 1 ; tap 0 , -255 ; drop ", -1);
        script("send 61", 5);
        script("send 0", 5);
        script("send", 4);
        script("send;drop", 4);
        script("send 1,2", 6);
        script("send 1 2", 7);
        script("phase -1", 6);
        script("phase 4", 6);
        script("hold 2", 5);
        script("tap 1", 5);
        script("tap 1;drop", 5);
        script("tap 1 5", 6);
        script("tap 1,", 6);
        script("tap 6,1", 4);
        script("tap -1,1", 4);
        script("tap 0,256", 6);
        script("tap 0,-256", 6);
        script("tap 1,5,6", 7);
        script("drop 1", 5);
        script("drop,1", 4);
        script("drop seek", 5);
        script("drop;", 5);
        script("drop; ", 6);
        script("drop;;drop", 5);
        script("noise 5", 6);
        script("train 100", 6);
        script("seek -", 5);
        script("pulse 1", 0);
        script("drops", 0);
        script("xrop", 0);
        script("seek;xeek", 5);
        script(STEPS_12, -1);
        script(STEPS_12 + "  ", -1);
        script(STEPS_12 + ";drop", STEPS_12.length());
        script(STEPS_12 + ";", STEPS_12.length());
        script(STEPS_12 + " ; drop", STEPS_12.length() + 1);
    }

    private static void promise4EitherSort() {
        Check.holds(4, "The FAULT of the TAPE as a LINE (0), a SCRIPT (1). NONE: none. -2: no such sort.");
        HuntedEye x = new HuntedEye();
        Check.due("4 no such sort", x.fault(2), -2);
        Check.due("4 no such sort", x.fault(-1), -2);
        Check.type(x, "drop");
        Check.due("4 the same tape as a line", x.fault(0), 0);
        Check.due("4 and as a script", x.fault(1), -1);
        Check.due("4 the tape stays", x.count(2), 4);
        Check.due("4 nothing is told by it", x.count(1), 0);
        Check.due("4 nor the line", x.rule(0), -1);
        String[] texts = {"noise 3;noise 3", "noise 3;train 5", "pulse 1;noise 3", "noise 3;pulse 1"};
        int[] asLine = {8, 15, -1, -1};
        int[] asScript = {-1, -1, 0, 8};
        for (int i = 0; i < 4; i++) {
            line(texts[i], asLine[i]);
            script(texts[i], asScript[i]);
        }
    }

    private static void promise5TextIsTheLine() {
        Check.holds(5, "The TAPE (empty then) is the LINE (all that was of another one is gone but SCRIPTS, RISK, STATUS): how many TAPS");
        HuntedEye x = new HuntedEye();
        Check.type(x, "pulse 5");
        Check.due("5 taps", x.text(0), 4);
        Check.due("5 the tape is empty then", x.count(2), 0);
        Check.due("5 count of taps", x.count(0), 4);
        Check.type(x, "pulse 5;fore 3;back 3");
        Check.due("5 most taps", x.text(0), 6);
        Check.type(x, "pulse 5;fore 1;back 0");
        Check.due("5 fewest taps", x.text(0), 1);
    }

    private static void promise5TextRefused() {
        Check.holds(5, "NONE: a FAULT, no such sort, there are four SCRIPTS.");
        HuntedEye x = Check.line("pulse 5;fore 1;back 0");
        x.send(3);
        Check.type(x, "pulse 61");
        Check.due("5 a fault", x.text(0), -1);
        Check.due("5 a fault", x.text(1), -1);
        Check.due("5 the tape stays", x.count(2), 8);
        Check.due("5 the line stays", x.told(0, 0), 5);
        Check.due("5 T stays", x.now(0), 3);
        Check.type(x, "pulse 6");
        Check.due("5 no such sort", x.text(2), -1);
        Check.due("5 no such sort", x.text(-1), -1);
        Check.due("5 the tape stays", x.count(2), 7);
        for (int i = 0; i < 4; i++) Check.due("5 no status", x.status(i), 0);
    }

    private static void promise5AnotherLine() {
        Check.holds(5, "all that was of another one is gone but SCRIPTS, RISK, STATUS");
        HuntedEye x = Check.line("pulse 5;noise 2;train 50;seed 3;gear 9");
        Check.script(x, "drop");
        x.risk(7);
        x.send(0);
        x.dice(99);
        x.send(20);
        x.hold(1);
        x.drop();
        x.phase(2);
        x.set(1, 9);
        x.image();
        Check.retell(x, "pulse 6;noise 1;level 7;train 3;seed 9");
        int[] fresh = {0, 0, 0, 0, 1, 3, 9, 0, 0, 0, 0, 0, 0, 0, 0, 0, 7, 0, 0};
        for (int i = 0; i < fresh.length; i++) Check.due("5 fresh now " + i, x.now(i), fresh[i]);
        Check.due("5 fresh tap 0", Check.tap(x, 0, 0), 64);
        Check.due("5 fresh tap 1", Check.tap(x, 1, 0), 0);
        for (int i = 0; i < 4; i++) Check.due("5 no votes", Check.tap(x, i, 1), 0);
        Check.due("5 nothing sent", x.ago(0, 0), 0);
        Check.due("5 nothing kept", x.ago(1, 0), 0);
        Check.due("5 no sample", x.ago(2, 0), 0);
        Check.due("5 no log", x.count(5), 0);
        Check.due("5 no log", x.log(0, 0), HuntedEye.HIDDEN);
        Check.due("5 no acts", x.undo(), -1);
        Check.due("5 no image", x.back(), -1);
        Check.due("5 no symbol", x.unrolled(0), HuntedEye.HIDDEN);
        Check.due("5 size of Z", x.coming(0, 7), 0);
        Check.due("5 scripts stay", x.count(1), 1);
        Check.due("5 risk stays", x.count(4), 7);
        Check.due("5 status stays", x.status(1), 1);
        // x is 0 again: the first draw of 3 of such a line, 6 + that - 1
        x.send(1);
        Check.due("5 x is 0", x.log(0, 0), 6 * x.ago(0, 0) + (int) ((1442695040888963407L >>> 33) % 3) - 1);
    }

    private static void promise5Scripts() {
        Check.holds(5, "a SCRIPT: its number. NONE: a FAULT, no such sort, there are four SCRIPTS.");
        HuntedEye x = new HuntedEye();
        for (int i = 0; i < 4; i++) Check.due("5 number of a script", Check.script(x, "send " + (i + 1)), i);
        Check.due("5 a fifth", Check.script(x, "drop"), -1);
        Check.due("5 the tape stays", x.count(2), 4);
        Check.due("5 four", x.count(1), 4);
        for (int i = 0; i < 4; i++) Check.due("5 each is kept", x.step(i, 0, 1), i + 1);
    }

    private static void promise6Rule() {
        Check.holds(6, "As told: 0 how many numbers pulse has, 1 fore, 2 back, 3 delay, 4 level, 5 gear, 6 floor, 7 noise, 8 train, 9 seed, 10 track, 11 lock, 12 how many bits word has.");
        HuntedEye x = Check.line("pulse 5,6,7");
        int[] usual = {3, 2, 2, 0, 40, 1, 4, 0, 0, 1, 0, 0, 0};
        for (int i = 0; i < usual.length; i++) Check.due("6 without " + i, x.rule(i), usual[i]);
        Check.retell(x, "lock 9;track 1;seed 127;train 98;noise 3;floor 59;gear 8;level 98;delay 1;back 3;fore 1;word 1,0,1,1;pulse 1");
        int[] told = {1, 1, 3, 1, 98, 8, 59, 3, 98, 127, 1, 9, 4};
        for (int i = 0; i < told.length; i++) Check.due("6 told " + i, x.rule(i), told[i]);
        x.send(2);
        x.change(0, 1);
        x.change(1, 5);
        for (int i = 0; i < told.length; i++) Check.due("6 as told, not as now " + i, x.rule(i), told[i]);
        Check.due("6 no such what", x.rule(-1), -1);
        Check.due("6 no such what", x.rule(13), -1);
    }

    private static void promise7Told() {
        Check.holds(7, "The i-th number of pulse (0), of word (1). HIDDEN: no such ones.");
        HuntedEye x = Check.line("pulse 1,-2,3,-4,5,-6,7,-8,9,-10,11,-12,13,-14,15,-60;word 1,0,0,1");
        for (int i = 0; i < 15; i++) Check.due("7 pulse " + i, x.told(0, i), i % 2 == 0 ? i + 1 : -i - 1);
        Check.due("7 pulse 15", x.told(0, 15), -60);
        int[] word = {1, 0, 0, 1};
        for (int i = 0; i < 4; i++) Check.due("7 word " + i, x.told(1, i), word[i]);
        Check.due("7 no such number", x.told(0, 16), HuntedEye.HIDDEN);
        Check.due("7 no such number", x.told(0, -1), HuntedEye.HIDDEN);
        Check.due("7 no such number", x.told(1, 4), HuntedEye.HIDDEN);
        Check.due("7 no such number", x.told(1, -1), HuntedEye.HIDDEN);
        Check.due("7 no such ones", x.told(2, 0), HuntedEye.HIDDEN);
        Check.due("7 no such ones", x.told(-1, 0), HuntedEye.HIDDEN);
        Check.retell(x, "pulse 8");
        Check.due("7 of another line", x.told(0, 0), 8);
        Check.due("7 no word", x.told(1, 0), HuntedEye.HIDDEN);
        Check.due("7 only one", x.told(0, 1), HuntedEye.HIDDEN);
        Check.due("7 no line", new HuntedEye().told(0, 0), HuntedEye.HIDDEN);
    }

    private static void promise24Step() {
        Check.holds(24, "A STEP of a SCRIPT: 0 what (0 send, 1 phase, 2 hold, 3 tap, 4 drop, 5 noise, 6 train, 7 seek), 1, 2 its numbers (HIDDEN: none).");
        HuntedEye x = new HuntedEye();
        Check.script(x, "seek;train 99;noise 4;drop;tap 5,-255;hold 1;phase 3;send 60");
        int none = HuntedEye.HIDDEN;
        int[][] steps = {{7, none, none}, {6, 99, none}, {5, 4, none}, {4, none, none}, {3, 5, -255}, {2, 1, none}, {1, 3, none}, {0, 60, none}};
        for (int i = 0; i < 8; i++) {
            for (int what = 0; what < 3; what++) Check.due("24 step " + i + " " + what, x.step(0, i, what), steps[i][what]);
        }
        Check.due("24 no such step", x.step(0, 8, 0), none);
        Check.due("24 no such step", x.step(0, -1, 0), none);
        Check.due("24 no such what", x.step(0, 0, 3), none);
        Check.due("24 no such what", x.step(0, 0, -1), none);
        Check.due("24 no such script", x.step(1, 0, 0), none);
        Check.due("24 no such script", x.step(-1, 0, 0), none);
        Check.script(x, STEPS_12);
        Check.due("24 the twelfth", x.step(1, 11, 0), 7);
        Check.due("24 no thirteenth", x.step(1, 12, 0), none);
    }
}
