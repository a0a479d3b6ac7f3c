/** What the tests share: texts fed as numbers, and answers held against those that are due. */
final class Check {
    private static int wrong;
    private static String held = "";
    private static boolean looked = true;

    private Check() { }

    /** What follows holds these words of the document, for this promise. SentencesTest looks whether they stand there. */
    static void holds(int promise, String words) {
        needLook();
        looked = false;
        held = "promise " + promise + ", '" + words + "': ";
    }

    private static void needLook() {
        if (!looked) {
            wrong++;
            System.out.println(held + "no answer was looked at");
        }
    }

    static void due(String call, long got, long want) {
        looked = true;
        if (got != want) {
            wrong++;
            System.out.println(held + call + " answered " + got + ", due is " + want);
        }
    }

    static void due(String call, boolean got, boolean want) {
        due(call, got ? 1 : 0, want ? 1 : 0);
    }

    static void finish() {
        needLook();
        System.exit(wrong == 0 ? 0 : 1);
    }

    /** Up to twenty signs as feed takes them. */
    static int[] fiveNumbers(String text) {
        int[] five = new int[5];
        for (int i = 0; i < text.length(); i++) {
            five[i / 4] |= text.charAt(i) << 24 - 8 * (i % 4);
        }
        return five;
    }

    /** The TAPE is this text then. */
    static void type(HuntedEye x, String text) {
        x.end(0);
        for (int i = 0; i < text.length(); i += 20) {
            int[] v = fiveNumbers(text.substring(i, Math.min(i + 20, text.length())));
            x.feed(v[0], v[1], v[2], v[3], v[4]);
        }
    }

    static HuntedEye line(String text) {
        HuntedEye x = new HuntedEye();
        retell(x, text);
        return x;
    }

    static void retell(HuntedEye x, String text) {
        type(x, text);
        if (x.text(0) < 0) {
            wrong++;
            System.out.println("refused as a LINE: " + text);
        }
    }

    static int script(HuntedEye x, String text) {
        type(x, text);
        return x.text(1);
    }

    static int lineFault(String text) {
        HuntedEye x = new HuntedEye();
        type(x, text);
        return x.fault(0);
    }

    static int scriptFault(String text) {
        HuntedEye x = new HuntedEye();
        type(x, text);
        return x.fault(1);
    }

    /** A TAP or its VOTES; HIDDEN stands for NoSuchElementException. */
    static int tap(HuntedEye x, int tap, int what) {
        try {
            return x.tap(tap, what);
        } catch (java.util.NoSuchElementException e) {
            return HuntedEye.HIDDEN;
        }
    }

    /** Sends up to this T, in as few calls as can be: an object is used for 512 at most. */
    static void sendTo(HuntedEye x, int t) {
        for (int at = x.now(0); at < t; at += 60) {
            x.send(Math.min(60, t - at));
        }
    }

    static int statusSum(HuntedEye x) {
        return x.status(0) + x.status(1) + x.status(2) + x.status(3);
    }

    /** All that can be told of what is now, in fewer than 350 calls. */
    static String snapshot(HuntedEye x) {
        StringBuilder s = new StringBuilder();
        for (int i = 0; i < 13; i++) s.append(x.rule(i)).append(' ');
        for (int i = 0; i < 19; i++) s.append(x.now(i)).append(' ');
        for (int i = 0; i < 6; i++) s.append(tap(x, i, 0)).append('/').append(tap(x, i, 1)).append(' ');
        for (int i = 0; i < 6; i++) s.append(x.ago(0, i)).append(' ');
        for (int i = 0; i < 3; i++) s.append(x.ago(1, i)).append(' ').append(x.ago(2, i)).append(' ');
        for (int i = 0; i < 60; i++) {
            for (int what = 0; what < 3; what++) s.append(x.log(i, what)).append(' ');
        }
        for (int i = 0; i < 8; i++) s.append(x.unrolled(i)).append(' ');
        for (int i = 0; i < 13; i++) s.append(x.coming(30, i)).append(' ');
        for (int i = 0; i < 7; i++) s.append(x.count(i)).append(' ');
        for (int i = 0; i < 2; i++) s.append(x.fault(i)).append(' ');
        return s.toString();
    }
}
