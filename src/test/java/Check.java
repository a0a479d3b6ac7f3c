/** What the tests share: texts fed as numbers, and answers held against those that are due. */
final class Check {
    private static int wrong;

    private Check() { }

    static void due(String call, long got, long want) {
        if (got != want) {
            wrong++;
            System.out.println(call + " answered " + got + ", due is " + want);
        }
    }

    static void due(String call, boolean got, boolean want) {
        due(call, got ? 1 : 0, want ? 1 : 0);
    }

    static void finish() {
        System.exit(wrong == 0 ? 0 : 1);
    }

    /** Up to twenty signs as feed takes them. */
    static int[] fiveNumbers(String text) {
        int[] five = new int[5];
        for (int i = 0; i < text.length(); i++) {
            five[i / 4] |= text.charAt(i) << 24 - 8 * (i % 4);
        }
        return five;
    }

    /** The TAPE is this text then. */
    static void type(HuntedEye x, String text) {
        x.end(0);
        for (int i = 0; i < text.length(); i += 20) {
            int[] v = fiveNumbers(text.substring(i, Math.min(i + 20, text.length())));
            x.feed(v[0], v[1], v[2], v[3], v[4]);
        }
    }

    static HuntedEye line(String text) {
        HuntedEye x = new HuntedEye();
        retell(x, text);
        return x;
    }

    static void retell(HuntedEye x, String text) {
        type(x, text);
        if (x.text(0) < 0) {
            wrong++;
            System.out.println("refused as a LINE: " + text);
        }
    }

    static int script(HuntedEye x, String text) {
        type(x, text);
        return x.text(1);
    }

    static int lineFault(String text) {
        HuntedEye x = new HuntedEye();
        type(x, text);
        return x.fault(0);
    }

    static int scriptFault(String text) {
        HuntedEye x = new HuntedEye();
        type(x, text);
        return x.fault(1);
    }

    /** A TAP or its VOTES; HIDDEN stands for NoSuchElementException. */
    static int tap(HuntedEye x, int tap, int what) {
        try {
            return x.tap(tap, what);
        } catch (java.util.NoSuchElementException e) {
            return HuntedEye.HIDDEN;
        }
    }
}
