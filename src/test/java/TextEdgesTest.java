/** The boundary cases of promises 1 to 7 and 24: a new object, the TAPE, LINES and SCRIPTS. */
public final class TextEdgesTest {
    private static final int HIDDEN = HuntedEye.HIDDEN;
    private static final int NONE = HuntedEye.NONE;
    /** Its ERROR is 0: nothing moves. */
    private static final String STILL = "pulse 20;fore 1;back 0;level 20;word 1";
    private static final int[] FAR = {Integer.MIN_VALUE, Integer.MAX_VALUE};

    public static void main(String[] args) {
        newObject();
        calls512();
        feedBytes();
        feedFull();
        feedFullByEach();
        endOfTape();
        wordsOfLines();
        boundsOfLines();
        boundsOfScripts();
        howManySteps();
        lettersAndDigits();
        blanks();
        endsTooEarly();
        wordsThatCannotBe();
        numbersThatCannotBe();
        numbersTooMany();
        partsThatCannotBe();
        fault();
        text();
        anotherLine();
        rule();
        told();
        step();
        Check.finish();
    }

    private static void line(String text, int fault) {
        Check.due("a LINE '" + text + "'", Check.lineFault(text), fault);
    }

    private static void script(String text, int fault) {
        Check.due("a SCRIPT '" + text + "'", Check.scriptFault(text), fault);
    }

    private static String repeated(String one, String between, int times) {
        return String.join(between, java.util.Collections.nCopies(times, one));
    }

    private static void newObject() {
        Check.holds(1, "No LINE.");
        HuntedEye x = new HuntedEye();
        Check.due("count of TAPS", x.count(0), 0);
        Check.due("rule", x.rule(0), NONE);
        Check.due("told", x.told(0, 0), HIDDEN);
        Check.due("tap", Check.tap(x, 0, 0), HIDDEN);
        for (int what = 0; what < 19; what++) Check.due("now " + what, x.now(what), HIDDEN);
        for (int what = 0; what < 3; what++) Check.due("ago " + what, x.ago(what, 0), HIDDEN);
        Check.due("send", x.send(1), NONE);
        Check.due("undo", x.undo(), NONE);
        Check.due("log", x.log(0, 0), HIDDEN);
        Check.due("image", x.image(), NONE);
        Check.due("back", x.back(), NONE);
        Check.due("T", x.count(3), 0);
        Check.due("SCRIPTS", x.count(1), 0);
        Check.due("the TAPE", x.count(2), 0);
        Check.holds(1, "`NONE = -1`: None; refused.");
        Check.due("NONE", HuntedEye.NONE, -1);
        Check.holds(1, "`HIDDEN = -1000000000`: Not told; no end.");
        Check.due("HIDDEN", HuntedEye.HIDDEN, -1000000000);
    }

    private static void calls512() {
        Check.holds(1, "An object is used for at most 512 calls after it has been made");
        HuntedEye x = new HuntedEye();
        int[] v = Check.fiveNumbers("pulse 20;level 20");
        x.feed(v[0], v[1], v[2], v[3], v[4]);
        x.text(0);
        for (int call = 3; call <= 511; call++) x.send(19);
        Check.due("the 512th call", x.now(0), 19 * 509);
    }

    private static void feedBytes() {
        Check.holds(2, "Twenty bytes more come to the TAPE");
        HuntedEye x = new HuntedEye();
        int full = 0x61626364;
        Check.due("twenty", x.feed(full, full, full, full, full), 20);
        Check.due("twenty more", x.feed(full, full, full, full, full), 40);
        Check.holds(2, "of each number the highest first");
        HuntedEye y = new HuntedEye();
        y.feed(0x70756c73, 0x65203132, 0x2c33342c, 0x2d35362c, 0x37203b20);
        y.feed(0x666f7265, 0x20330000, 0, 0, 0);
        Check.due("its TAPS", y.text(0), 5);
        int[] pulse = {12, 34, -56, 7};
        for (int i = 0; i < 4; i++) Check.due("pulse " + i, y.told(0, i), pulse[i]);
        Check.holds(2, "bytes of 0 are left out");
        HuntedEye z = new HuntedEye();
        Check.due("nothing but 0", z.feed(0, 0, 0, 0, 0), 0);
        Check.due("one byte in each number", z.feed(0x70000000, 0x00750000, 0x00006c00, 0x00000073, 0x65000000), 5);
        Check.due("0 at its end", z.feed(0x20370000, 0, 0, 0, 0), 7);
        Check.due("no FAULT", z.fault(0), NONE);
        z.text(0);
        Check.due("the number", z.told(0, 0), 7);
        Check.due("bytes of 128 and 255 count", z.feed(0x80000000, 0xff, -1, 0x00ff0080, 0), 8);
    }

    private static void feedFull() {
        Check.holds(2, "NONE: more than 240.");
        HuntedEye x = new HuntedEye();
        int full = 0x61616161;
        for (int i = 1; i <= 12; i++) Check.due("feed", x.feed(full, full, full, full, full), 20 * i);
        Check.due("one more than 240", x.feed(0, 0, 0, 0, 0x61), NONE);
        Check.due("bytes of 0 are none more", x.feed(0, 0, 0, 0, 0), 240);
        Check.due("a byte of 1 is one more, too", x.feed(0, 0, 1, 0, 0), NONE);
        x.end(221);
        Check.due("241 in all", x.feed(full, full, full, full, full), NONE);
        Check.due("none of them came", x.count(2), 221);
        Check.due("240 in all", x.feed(full, full, full, full, 0x61610061), 240);
        x.end(0);
        Check.due("empty again", x.feed(0, 0x61, 0, 0, 0), 1);
    }

    private static void feedFullByEach() {
        Check.holds(2, "NONE: more than 240.");
        int full = 0x61616161;
        for (int number = 0; number < 5; number++) {
            HuntedEye x = new HuntedEye();
            for (int i = 0; i < 12; i++) x.feed(full, full, full, full, full);
            x.end(238);
            int[] v = new int[5];
            v[number] = 0x61006161;
            Check.due("three bytes in number " + number, x.feed(v[0], v[1], v[2], v[3], v[4]), NONE);
            v[number] = 0x00616100;
            Check.due("two bytes in number " + number, x.feed(v[0], v[1], v[2], v[3], v[4]), 240);
        }
    }

    private static void endOfTape() {
        Check.holds(3, "The TAPE has its first n bytes alone.");
        HuntedEye x = new HuntedEye();
        Check.due("an empty one", x.end(0), true);
        Check.type(x, "pulse 12");
        Check.due("all", x.end(8), true);
        Check.due("eight", x.count(2), 8);
        Check.due("one less", x.end(7), true);
        Check.due("seven", x.count(2), 7);
        x.feed(0x35000000, 0, 0, 0, 0);
        x.text(0);
        Check.due("the first ones and what came behind", x.told(0, 0), 15);
        Check.type(x, "pulse 12");
        Check.due("none", x.end(0), true);
        Check.due("empty", x.count(2), 0);
        Check.holds(3, "False: n.");
        HuntedEye y = new HuntedEye();
        Check.due("1 of 0", y.end(1), false);
        Check.due("-1 of 0", y.end(-1), false);
        Check.type(y, "pulse 12");
        Check.due("9 of 8", y.end(9), false);
        Check.due("-1 of 8", y.end(-1), false);
        for (int far : FAR) Check.due("far", y.end(far), false);
        Check.due("as before", y.count(2), 8);
        y.end(7);
        Check.due("what is cut off does not come again", y.end(8), false);
    }

    private static void wordsOfLines() {
        String[] clauses = {"pulse 1", "fore 1", "back 1", "delay 1", "level 1", "gear 1", "floor 1", "noise 1", "train 1", "seed 1",
            "track 1", "lock 1", "word 1"};
        Check.holds(4, "every WORD once at most, in any order");
        for (int first = 0; first < 13; first++) {
            StringBuilder all = new StringBuilder(clauses[first]);
            for (int i = 1; i < 13; i++) all.append(';').append(clauses[(first + 5 * i) % 13]);
            line(all.toString(), NONE);
            for (String again : clauses) line(all + ";" + again, all.length() + 1);
        }
        for (String one : clauses) line("pulse 1;" + one + ";" + one, one.equals("pulse 1") ? 8 : 9 + one.length());
        Check.holds(4, "pulse (1 to 16 numbers, -60 .. 60; it must be there)");
        line("pulse", 5);
        line("pulse;fore 1", 5);
        for (int n = 1; n <= 16; n++) line("pulse " + repeated("-60", ",", n), NONE);
        line("pulse " + repeated("60", ",", 17), 6 + 16 * 3 - 1);
        line("pulse -61", 6);
        line("pulse 61", 6);
        line("pulse 60,-60,61", 13);
        line("fore 1", 6);
        Check.holds(4, "word (1 to 16 numbers, 0 or 1; none)");
        line("pulse 1;word", 12);
        for (int n = 1; n <= 16; n++) line("pulse 1;word " + repeated(n % 2 == 0 ? "1" : "0", ",", n), NONE);
        line("pulse 1;word " + repeated("1", ",", 17), 13 + 31);
        line("pulse 1;word 1,2", 15);
        line("pulse 1;word -1", 13);
        Check.due("none", Check.line("pulse 1").rule(12), 0);
    }

    private static void bounds(String words, String word, int low, int high, int usual, int what) {
        Check.holds(4, words);
        String start = "pulse 1;" + word + " ";
        line(start + (low - 1), start.length());
        line(start + low, NONE);
        line(start + high, NONE);
        line(start + (high + 1), start.length());
        line(start + low + "," + low, start.length() + 1);
        line(start, start.length());
        Check.due("without " + word, Check.line("pulse 1").rule(what), usual);
        Check.due("the least " + word, Check.line(start + low).rule(what), low);
        Check.due("the greatest " + word, Check.line(start + high).rule(what), high);
    }

    private static void boundsOfLines() {
        bounds("fore (1 .. 3; 2 without)", "fore", 1, 3, 2, 1);
        bounds("back (0 .. 3; 2)", "back", 0, 3, 2, 2);
        bounds("delay (0 .. 2; 0)", "delay", 0, 2, 0, 3);
        bounds("level (1 .. 99; 40)", "level", 1, 99, 40, 4);
        bounds("gear (1 .. 9; 1)", "gear", 1, 9, 1, 5);
        bounds("floor (0 .. 60; 4)", "floor", 0, 60, 4, 6);
        bounds("noise (0 .. 4; 0)", "noise", 0, 4, 0, 7);
        bounds("train (0 .. 99; 0)", "train", 0, 99, 0, 8);
        bounds("seed (1 .. 127; 1)", "seed", 1, 127, 1, 9);
        bounds("track (0, 1; 0)", "track", 0, 1, 0, 10);
        bounds("lock (0 .. 9; 0)", "lock", 0, 9, 0, 11);
    }

    private static void stepBounds(String words, String word, int low, int high) {
        Check.holds(4, words);
        int at = word.length() + 1;
        script(word + " " + (low - 1), at);
        script(word + " " + low, NONE);
        script(word + " " + high, NONE);
        script(word + " " + (high + 1), at);
        script(word, word.length());
        script(word + ";drop", word.length());
        script(word + " " + low + "," + low, at + Integer.toString(low).length());
    }

    private static void boundsOfScripts() {
        stepBounds("send (1 .. 60)", "send", 1, 60);
        stepBounds("phase (0 .. 3)", "phase", 0, 3);
        stepBounds("hold (0, 1)", "hold", 0, 1);
        stepBounds("drop (none), noise (0 .. 4)", "noise", 0, 4);
        stepBounds("train (0 .. 99), seek (none)", "train", 0, 99);
        Check.holds(4, "tap (two: 0 .. 5, -255 .. 255)");
        script("tap", 3);
        script("tap -1,0", 4);
        script("tap 0,0", NONE);
        script("tap 5,0", NONE);
        script("tap 6,0", 4);
        script("tap 0,-256", 6);
        script("tap 0,-255", NONE);
        script("tap 0,255", NONE);
        script("tap 0,256", 6);
        script("tap 0", 5);
        script("tap 0;drop", 5);
        script("tap 0 0", 6);
        script("tap 0,", 6);
        script("tap 0,0,0", 7);
        Check.holds(4, "drop (none)");
        script("drop", NONE);
        script("drop 0", 5);
        script("drop,", 4);
        script("drop,0", 4);
        Check.holds(4, "seek (none)");
        script("seek", NONE);
        script("seek 0", 5);
        script("seek-0", 4);
        script("seek,0", 4);
    }

    private static void howManySteps() {
        Check.holds(4, "STEPS with ; between, 1 to 12");
        script("", 0);
        for (int n = 1; n <= 12; n++) script(repeated("seek", ";", n), NONE);
        Check.holds(4, "the ; ahead of a 13th STEP");
        script(repeated("seek", ";", 13), 12 * 5 - 1);
        script(repeated("seek", ";", 12) + " ;seek", 12 * 5);
        script(repeated("tap 0,0", ";", 13), 12 * 8 - 1);
        script(repeated("seek", ";", 12) + ";x", 12 * 5 - 1);
        Check.holds(4, "What a STEP tells that can't be is no FAULT.");
        HuntedEye x = Check.line("pulse 1;fore 1;back 0");
        Check.due("no such TAP, it is so twice", Check.script(x, "tap 5,1;hold 0;phase 0;drop;drop;noise 0"), 0);
    }

    private static void lettersAndDigits() {
        Check.holds(4, "A WORD is letters (a to z), as many as stand one behind another");
        line("pulse1", NONE);
        line("pulse-1", NONE);
        line("pulsefore 1", 0);
        line("pulsea 1", 0);
        line("pulsez 1", 0);
        line("pulse`1", 5);
        line("pulse{1", 5);
        line("pulsE 1", 0);
        line("pul se 1", 0);
        line("Apulse 1", 0);
        line("xulse 1", 0);
        line("pulsx 1", 0);
        line("puls 1", 0);
        script("xeek", 0);
        script("see", 0);
        script("dropseek", 0);
        Check.holds(4, "a number is digits, as many as stand one behind another");
        line("pulse 60", NONE);
        line("pulse 6/", 7);
        line("pulse 6:", 7);
        line("pulse 6 0", 8);
        line("pulse 600", 6);
        line("pulse " + repeated("9", "", 200), 6);
        line("pulse -" + repeated("9", "", 200), 6);
        line("pulse 4294967296", 6);
        line("pulse -4294967297", 6);
        line("pulse 18446744073709551617", 6);
        Check.holds(4, "with a - right ahead of them or without");
        line("pulse -60", NONE);
        line("pulse -0", NONE);
        line("pulse - 60", 6);
        line("pulse --60", 6);
        line("pulse 6-0", 7);
        line("pulse 1;fore -0", 13);
        line("pulse 1;back -0", NONE);
        Check.holds(4, "it goes by what it is worth: 007 is 7");
        line("pulse 007", NONE);
        Check.due("007", Check.line("pulse 007").told(0, 0), 7);
        Check.due("-007", Check.line("pulse -007").told(0, 0), -7);
        Check.due("233 digits", Check.line("pulse " + repeated("0", "", 232) + "7").told(0, 0), 7);
        line("pulse " + repeated("0", "", 230) + "0060", NONE);
        line("pulse " + repeated("0", "", 230) + "0061", 6);
    }

    private static void blanks() {
        Check.holds(4, "Blanks (32) may stand ahead of and behind all these, and ; and ,");
        line("  pulse  1  ,  -2  ;  fore  1  ", NONE);
        script("  send  1  ;  tap  1  ,  -2  ;  drop  ", NONE);
        line("\tpulse 1", 0);
        line("pulse\t1", 5);
        line("pulse 1\t", 7);
        line("pulse 1,\n2", 8);
        line("pulse 1;" + (char) 160 + "fore 1", 8);
        line("pulse" + (char) 31 + "1", 5);
        line("pulse!1", 5);
    }

    private static void endsTooEarly() {
        Check.holds(4, "the length, if the TEXT ends too early, or is a LINE without pulse");
        line("", 0);
        line("  ", 2);
        line("pulse", 5);
        line("pulse  ", 7);
        line("pulse 1,", 8);
        line("pulse 1,  ", 10);
        line("pulse 1;", 8);
        line("pulse 1;  ", 10);
        line("pulse 1;fore", 12);
        line("fore 1", 6);
        line("fore 1  ", 8);
        line("fore 1;word 1", 13);
        line("fore 1;", 7);
        script("", 0);
        script(" ", 1);
        script("send", 4);
        script("send ", 5);
        script("tap 1", 5);
        script("tap 1 ", 6);
        script("tap 1,", 6);
        script("drop;", 5);
        script("drop; ", 6);
        String all = "pulse 1;word 0;fore 1;back 1;delay 1;level 1;gear 1;floor 1;noise 1;train 1;seed 1;track 1;lock 1;";
        line(all, all.length());
        line(all + " ", all.length() + 1);
    }

    private static void wordsThatCannotBe() {
        Check.holds(4, "where the first part begins that can't be");
        line("pulse 61;x", 6);
        line("x;pulse 61", 0);
        line("  x", 2);
        line("fore 4;pulse 61", 5);
        line("pulse 1;pulse 61", 8);
        script("send 1;  x;send 61", 9);
        Check.holds(4, "a WORD that is none of these, or was there in a LINE");
        line("send 1", 0);
        line("pulse 1;drop", 8);
        line("pulse 1; puls 1", 9);
        line("pulse 1;back 1;back 1", 15);
        script("pulse 1", 0);
        script("drop;gear 1", 5);
        // in a SCRIPT a WORD may be there again
        script("drop;drop", NONE);
    }

    private static void numbersThatCannotBe() {
        Check.holds(4, "a number out of bounds");
        line("pulse 1,61", 8);
        line("pulse 1 ,  -61 ,1", 11);
        line("pulse 1;fore 4x", 13);
        script("tap 6,256", 4);
        script("tap 5,256", 6);
        Check.holds(4, "a - without a digit right behind");
        line("pulse -", 6);
        line("pulse 1,-", 8);
        line("pulse - 1", 6);
        line("pulse -x", 6);
        line("pulse -;fore 1", 6);
        line("pulse 1 -", 8);
        script("send -", 5);
        script("tap 1,-", 6);
        script("drop -", 5);
    }

    private static void numbersTooMany() {
        Check.holds(4, "a , ahead of one number too many");
        line("pulse 1;fore 1,1", 14);
        line("pulse 1;fore 1 ,1", 15);
        line("pulse " + repeated("1", ",", 17), 6 + 31);
        line("pulse " + repeated("1", ",", 16) + "  ,1", 6 + 33);
        line("pulse 1;word " + repeated("1", ",", 17), 13 + 31);
        script("send 1,1", 6);
        script("tap 1,1,1", 7);
        script("tap 1,1 ,1", 8);
        script("drop,1", 4);
        script("drop ,1", 5);
    }

    private static void partsThatCannotBe() {
        Check.holds(4, "another part than a number where one must be");
        line("pulse ;", 6);
        line("pulse ,1", 6);
        line("pulse fore 1", 6);
        // what could be read on from there is not looked at
        line("pulse fore 4", 6);
        line("pulse fore 1;x", 6);
        line("pulse 1,,1", 8);
        line("pulse 1,;", 8);
        line("pulse 1,x", 8);
        script("send;send 1", 4);
        script("send send 61", 5);
        script("tap 1;x", 5);
        script("tap ,1", 4);
        script("tap 1,;", 6);
        Check.holds(4, "any other byte");
        for (int one = 1; one < 256; one++) {
            boolean known = one == ' ' || one == ';' || one == ',' || one == '-' || one >= '0' && one <= '9' || one >= 'a' && one <= 'z';
            if (!known) {
                line("pulse 1" + (char) one, 7);
                line("pulse " + (char) one, 6);
                line((char) one + "pulse 1", 0);
                script("drop" + (char) one, 4);
            }
        }
        line("pulse 1;;fore 1", 8);
        line(";pulse 1", 0);
        line("pulse 1 1", 8);
        line("1", 0);
        script("drop drop", 5);
        script("send 1 send 1", 7);
    }

    private static void fault() {
        Check.holds(4, "NONE: none.");
        HuntedEye x = new HuntedEye();
        Check.type(x, "pulse 1");
        Check.due("a LINE", x.fault(0), NONE);
        Check.due("no SCRIPT", x.fault(1), 0);
        Check.type(x, "drop");
        Check.due("a SCRIPT", x.fault(1), NONE);
        Check.due("no LINE", x.fault(0), 0);
        Check.due("the TAPE stays", x.count(2), 4);
        Check.holds(4, "-2: no such sort.");
        Check.due("2", x.fault(2), -2);
        Check.due("-1", x.fault(-1), -2);
        for (int far : FAR) Check.due("far", x.fault(far), -2);
    }

    private static void text() {
        Check.holds(5, "The TAPE (empty then) is the LINE");
        HuntedEye x = new HuntedEye();
        for (int fore = 1; fore <= 3; fore++) {
            for (int back = 0; back <= 3; back++) {
                Check.type(x, "pulse 1;fore " + fore + ";back " + back);
                Check.due("how many TAPS", x.text(0), fore + back);
                Check.due("an empty TAPE", x.count(2), 0);
            }
        }
        Check.due("an empty TAPE is no LINE", x.text(0), NONE);
        Check.holds(5, "a SCRIPT: its number");
        for (int i = 0; i < 4; i++) {
            Check.due("its number", Check.script(x, "send " + (50 + i)), i);
            Check.due("an empty TAPE", x.count(2), 0);
        }
        Check.holds(5, "SCRIPTS (4 at most) are TEXTS");
        Check.due("four", x.count(1), 4);
        Check.due("a fifth", Check.script(x, "send 1"), NONE);
        Check.due("still four", x.count(1), 4);
        Check.due("the fourth", x.step(3, 0, 1), 53);
        Check.holds(5, "NONE: a FAULT, no such sort, there are four SCRIPTS.");
        Check.due("the TAPE stays", x.count(2), 6);
        Check.due("no LINE", x.text(0), NONE);
        Check.type(x, "pulse 9;fore 3;back 3");
        for (int sort : new int[] {-1, 2, Integer.MIN_VALUE, Integer.MAX_VALUE}) Check.due("no such sort", x.text(sort), NONE);
        Check.due("the TAPE stays", x.count(2), 21);
        Check.due("the LINE, too", x.rule(0) + x.told(0, 0), 2);
        Check.due("with four SCRIPTS a LINE can be", x.text(0), 6);
        Check.due("no STATUS", Check.statusSum(x), 0);
        HuntedEye y = new HuntedEye();
        Check.type(y, "send 61");
        Check.due("a FAULT", y.text(1), NONE);
        Check.due("no SCRIPT", y.count(1), 0);
    }

    private static void anotherLine() {
        Check.holds(5, "all that was of another one is gone but SCRIPTS, RISK, STATUS");
        String line = "pulse 9,5;noise 2;train 7;seed 3;level 11;fore 3;back 3;gear 2;lock 9";
        HuntedEye x = Check.line("pulse 20,9,0,0,-7,0,0,0,5;fore 3;back 3;delay 2;track 1;lock 2;gear 5;noise 4;train 9;word 1,1,0");
        Check.script(x, "drop");
        x.risk(8);
        x.send(0);
        x.dice(77);
        x.send(50);
        x.set(4, 9);
        x.hold(1);
        x.image();
        x.drop();
        x.send(1);
        x.phase(3);
        judgedAndDark(x);
        x.drop();
        Check.retell(x, line);
        HuntedEye fresh = Check.line(line);
        Check.script(fresh, "drop");
        fresh.risk(8);
        Check.due("STATUS stays", x.status(1), 1);
        Check.due("SCRIPTS stay", x.step(0, 0, 0), 4);
        Check.due("no IMAGE", x.back(), NONE);
        Check.due("no ACT", x.undo(), NONE);
        Check.due("no Z", x.coming(0, 7), 0);
        Check.due("as a fresh one", Check.snapshot(x).equals(Check.snapshot(fresh)), true);
        x.send(9);
        fresh.send(9);
        for (int i = 0; i < 9; i++) Check.due("x is 0 again", x.log(i, 0), fresh.log(i, 0));
        for (int i = 0; i < 6; i++) Check.due("VOTES are 0 again", Check.tap(x, i, 1), Check.tap(fresh, i, 1));
        Check.due("VOTES of PHASE", x.now(18), fresh.now(18));
        HuntedEye loud = Check.line(STILL);
        loud.send(3);
        Check.retell(loud, STILL);
        Check.due("how many that are not QUIET", loud.now(9), 0);
        Check.due("LEARNT ever", loud.now(11), 0);
        HuntedEye shorter = Check.line("pulse 1,2,3,4,5,6,7,8,9,10,11,12,13,14,15,16;word 1,1,1,1,1,1,1,1");
        Check.retell(shorter, "pulse 40;word 0,0,0");
        Check.due("what the longer pulse had", shorter.weigh(63, 1, 0), 0);
        shorter.phase(1);
        shorter.send(4);
        Check.due("what the longer pulse had", shorter.log(0, 0), 0);
        Check.due("what the longer word had", shorter.ago(0, 0), -1);
        Check.holds(5, "those of noise by x, at first 0 with each LINE");
        HuntedEye z = Check.line("pulse 20;fore 1;back 0;noise 4;word 1");
        z.send(1);
        Check.due("the first draw of nine", z.log(0, 0), 16 + Long.remainderUnsigned(1442695040888963407L >>> 33, 9));
    }

    /** RUNS that ended, one that is open with a right SYMBOL in it, a DARK line, VOTES of PHASE, and an ERROR. */
    private static void judgedAndDark(HuntedEye x) {
        Check.retell(x, "pulse 20,60;fore 1;back 2;level 40;gear 9;lock 9;word 1;floor 30");
        x.send(1);
        x.phase(1);
        x.send(1);
        Check.due("VOTES of PHASE", x.now(18), 2);
        x.hold(1);
        for (int tap : new int[] {-64, 64, 65, -65, 66}) {
            x.set(0, tap);
            if (tap > 64 || tap == -65) x.drop();
            if (tap == 66) x.phase(0);
            x.send(tap == 66 ? 3 : 1);
        }
        x.set(0, -1);
        x.send(1);
        x.set(0, 1);
        x.send(1);
        Check.due("DARK", x.now(3), 1);
        Check.due("RUNS", x.now(12) > 0 && x.now(13) > 0, true);
        Check.due("an open one", x.now(14) > 0 && x.now(15) > 0, true);
        Check.due("QUIET", x.now(8), 4);
        Check.due("Z", x.coming(0, 7) > 0, true);
        x.phase(2);
        x.image();
    }

    private static void rule() {
        Check.holds(6, "NONE: no LINE, no such what.");
        HuntedEye x = new HuntedEye();
        for (int what = 0; what < 13; what++) Check.due("no LINE " + what, x.rule(what), NONE);
        Check.retell(x, "pulse 1,2;word 1,0,1");
        for (int what : new int[] {-1, 13, Integer.MIN_VALUE, Integer.MAX_VALUE}) Check.due("no such what", x.rule(what), NONE);
        Check.due("the first", x.rule(0), 2);
        Check.due("the last", x.rule(12), 3);
        Check.holds(6, "As told: 0 how many numbers pulse has");
        HuntedEye most = Check.line("pulse " + repeated("1", ",", 16) + ";word " + repeated("1", ",", 16) + ";noise 3;train 9;level 8;seed 5;track 1");
        most.send(5);
        most.change(0, 1);
        most.change(1, 77);
        int[] due = {16, 2, 2, 0, 8, 1, 4, 3, 9, 5, 1, 0, 16};
        for (int what = 0; what < 13; what++) Check.due("as told, not as now " + what, most.rule(what), due[what]);
    }

    private static void told() {
        Check.holds(7, "HIDDEN: no such ones.");
        HuntedEye x = new HuntedEye();
        Check.due("no LINE", x.told(0, 0), HIDDEN);
        Check.due("no LINE", x.told(1, 0), HIDDEN);
        Check.retell(x, "pulse " + repeated("-60", ",", 15) + ",59;word " + repeated("0", ",", 15) + ",1");
        Check.due("pulse 0", x.told(0, 0), -60);
        Check.due("pulse 15", x.told(0, 15), 59);
        Check.due("word 0", x.told(1, 0), 0);
        Check.due("word 15", x.told(1, 15), 1);
        for (int i : new int[] {-1, 16, Integer.MIN_VALUE, Integer.MAX_VALUE}) {
            Check.due("no such number of pulse", x.told(0, i), HIDDEN);
            Check.due("no such number of word", x.told(1, i), HIDDEN);
            Check.due("no such which", x.told(i == 16 ? 2 : i, 0), HIDDEN);
        }
        Check.retell(x, "pulse 3;word 1");
        Check.due("one number", x.told(0, 0), 3);
        Check.due("no second one", x.told(0, 1), HIDDEN);
        Check.due("one bit", x.told(1, 0), 1);
        Check.due("no second one", x.told(1, 1), HIDDEN);
        Check.retell(x, "pulse 3");
        Check.due("without word", x.told(1, 0), HIDDEN);
    }

    private static void step() {
        Check.holds(24, "1, 2 its numbers (HIDDEN: none)");
        HuntedEye x = new HuntedEye();
        Check.script(x, "send 60;phase 3;hold 0;tap 5,-255;drop;noise 4;train 99;seek");
        int[][] steps = {{0, 60, HIDDEN}, {1, 3, HIDDEN}, {2, 0, HIDDEN}, {3, 5, -255}, {4, HIDDEN, HIDDEN}, {5, 4, HIDDEN}, {6, 99, HIDDEN},
            {7, HIDDEN, HIDDEN}};
        for (int i = 0; i < 8; i++) {
            for (int what = 0; what < 3; what++) Check.due("STEP " + i + ", " + what, x.step(0, i, what), steps[i][what]);
        }
        Check.holds(24, "HIDDEN: no such ones.");
        Check.due("no ninth STEP", x.step(0, 8, 0), HIDDEN);
        Check.due("none ahead", x.step(0, -1, 0), HIDDEN);
        Check.due("no such what", x.step(0, 0, 3), HIDDEN);
        Check.due("no such what", x.step(0, 3, -1), HIDDEN);
        Check.due("no second SCRIPT", x.step(1, 0, 0), HIDDEN);
        Check.due("none ahead", x.step(-1, 0, 0), HIDDEN);
        for (int far : FAR) {
            Check.due("far", x.step(far, 0, 0), HIDDEN);
            Check.due("far", x.step(0, far, 0), HIDDEN);
            Check.due("far", x.step(0, 0, far), HIDDEN);
        }
        Check.due("no SCRIPT at all", new HuntedEye().step(0, 0, 0), HIDDEN);
        for (int i = 1; i < 4; i++) Check.script(x, repeated("seek", ";", 10 + Math.min(i, 2)));
        Check.due("the twelfth STEP of the fourth", x.step(3, 11, 0), 7);
        Check.due("no thirteenth", x.step(3, 12, 0), HIDDEN);
        Check.due("no fifth SCRIPT", x.step(4, 0, 0), HIDDEN);
        Check.due("no twelfth of the second", x.step(1, 11, 0), HIDDEN);
    }
}
