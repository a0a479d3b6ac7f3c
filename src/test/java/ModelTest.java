import java.util.NoSuchElementException;
import java.util.Random;

/** Runs of random calls, each answered as Model answers it. */
public final class ModelTest {
    private static final int OBJECTS = 300;
    /** An object is used for 512 calls at most; one round below makes up to 40. */
    private static final int CALLS = 512 - 40;

    private static final String[] BITS_OF_TEXT = {";", ",", " ", "-", "pulse", "fore", "back", "send", "tap", "drop",
        "seek", "0", "1", "7", "61", "256", "x", "P", "\u00e9", "word", "  ", "noise 2", "train 5", "hold 1"};

    private final Random random;
    private final HuntedEye eye = new HuntedEye();
    private final Model model = new Model();
    private final StringBuilder story = new StringBuilder();
    private int wrong;
    private int calls;

    private ModelTest(long seed) {
        random = new Random(seed);
    }

    public static void main(String[] args) {
        int wrong = 0;
        int objects = args.length > 0 ? Integer.parseInt(args[0]) : OBJECTS;
        for (int i = 0; i < objects && wrong < 5; i++) {
            ModelTest one = new ModelTest(i);
            one.live();
            wrong += one.wrong;
        }
        for (int i = 0; i < objects && wrong < 5; i++) {
            ModelTest one = new ModelTest(-1 - i);
            one.allBursts();
            wrong += one.wrong;
        }
        System.exit(wrong == 0 ? 0 : 1);
    }

    private void live() {
        if (random.nextInt(10) > 0) tell(0, lineText());
        // some objects go on to the last T
        boolean far = random.nextInt(8) == 0;
        while (calls < CALLS && wrong == 0) {
            if (!far && random.nextInt(60) == 0) {
                tell(0, lineText());
            } else if (random.nextInt(30) == 0) {
                tell(1, scriptText());
            } else if (far && random.nextInt(4) > 0) {
                same("send(60)", eye.send(60), model.act("send", 60, 0, -1));
            } else {
                call(random.nextInt(48));
            }
        }
    }

    /** Taps that take off more or less what the pulse leaves behind: bursts that end, but not at once. */
    private void allBursts() {
        int fore = within(1, 3);
        int back = within(1, 3);
        int delay = within(0, 2);
        StringBuilder s = new StringBuilder("fore " + fore + ";back " + back + ";delay " + delay + ";pulse 0");
        int[] pulse = {0, 0, 0, 0};
        for (int k = 0; k < 4; k++) pulse[k] = k == delay ? within(15, 30) : within(-14, 14);
        for (int i = 1; i < 16; i++) s.append(',').append(i % 4 == 1 ? pulse[i / 4] : 0);
        tell(0, s.toString());
        same("phase", eye.phase(1), model.act("phase", 1, 0, -1));
        for (int j = 0; j < back; j++) {
            int left = delay + 1 + j < 4 ? pulse[delay + 1 + j] : 0;
            int tap = left + within(-3, 3);
            same("set", eye.set(fore + j, tap), model.act("tap", fore + j, tap, Model.HIDDEN));
        }
        if (fore > 1) {
            int tap = within(-20, 20);
            same("set", eye.set(1, tap), model.act("tap", 1, tap, Model.HIDDEN));
        }
        java.util.Map<String, int[]> known = new java.util.HashMap<>();
        for (int row = 0; row < 64 && wrong == 0; row++) {
            same("burst(" + row + ",0)", eye.burst(row, 0), model.burst(row, 0, known));
            same("burst(" + row + ",1)", eye.burst(row, 1), model.burst(row, 1, known));
        }
        same("bursts()", eye.bursts(), model.bursts());
    }

    private int in(int low, int high) {
        if (random.nextInt(25) == 0) return low - 1;
        if (random.nextInt(25) == 0) return high + 1;
        if (random.nextInt(60) == 0) return random.nextInt();
        return within(low, high);
    }

    private int within(int low, int high) {
        return low + random.nextInt(high - low + 1);
    }

    private String lineText() {
        StringBuilder s = new StringBuilder();
        int[][] bounds = {{-60, 60}, {1, 3}, {0, 3}, {0, 2}, {1, 99}, {1, 9}, {0, 60}, {0, 4}, {0, 99}, {1, 127}, {0, 1}, {0, 9}, {0, 1}};
        String[] words = Model.LINE_WORDS.keySet().toArray(new String[0]);
        int from = random.nextInt(13);
        for (int i = 0; i < 13; i++) {
            int w = (i + from) % 13;
            if (w != 0 && random.nextInt(2) == 0) continue;
            if (s.length() > 0) s.append(random.nextInt(9) == 0 ? " ; " : ";");
            s.append(words[w]);
            int many = w == 0 || w == 12 ? within(1, 16) : 1;
            for (int k = 0; k < many; k++) {
                s.append(k > 0 ? "," : " ");
                int high = bounds[w][1];
                if (w == 6 && random.nextInt(3) > 0) high = 8;
                if (w == 8 && random.nextInt(2) > 0) high = 20;
                s.append(within(w == 0 && k < 4 && random.nextBoolean() ? 10 : bounds[w][0], high));
            }
        }
        return spoilt(s);
    }

    private String scriptText() {
        StringBuilder s = new StringBuilder();
        int many = within(1, random.nextInt(10) == 0 ? 13 : 6);
        for (int i = 0; i < many; i++) {
            if (i > 0) s.append(random.nextInt(9) == 0 ? "; " : ";");
            switch (random.nextInt(8)) {
                case 0: s.append("send ").append(within(1, random.nextBoolean() ? 9 : 60)); break;
                case 1: s.append("phase ").append(within(0, 3)); break;
                case 2: s.append("hold ").append(within(0, 1)); break;
                case 3: s.append("tap ").append(within(0, 5)).append(',').append(within(-255, 255)); break;
                case 4: s.append("drop"); break;
                case 5: s.append("noise ").append(within(0, 4)); break;
                case 6: s.append("train ").append(within(0, 99)); break;
                default: s.append("seek");
            }
        }
        return spoilt(s);
    }

    private String spoilt(StringBuilder s) {
        if (random.nextInt(4) == 0) {
            int at = random.nextInt(s.length() + 1);
            if (random.nextBoolean()) {
                s.insert(at, BITS_OF_TEXT[random.nextInt(BITS_OF_TEXT.length)]);
            } else if (at < s.length()) {
                s.deleteCharAt(at);
            }
        }
        return s.toString();
    }

    private void tell(int sort, String text) {
        if (random.nextInt(5) > 0) same("end(0)", eye.end(0) ? 1 : 0, model.end(0) ? 1 : 0);
        story.append("  text ").append(text).append('\n');
        for (int i = 0; i < text.length(); i += 20) {
            int[] v = Check.fiveNumbers(text.substring(i, Math.min(i + 20, text.length())));
            same("feed", eye.feed(v[0], v[1], v[2], v[3], v[4]), model.feed(v));
        }
        same("fault(0)", eye.fault(0), model.fault(0));
        same("fault(1)", eye.fault(1), model.fault(1));
        same("text(" + sort + ")", eye.text(sort), model.text(sort));
    }

    private void call(int which) {
        int a;
        int b;
        int c;
        long l;
        switch (which) {
            case 0: a = random.nextInt(); b = random.nextInt(3) == 0 ? 0 : random.nextInt();
                if (random.nextInt(4) == 0) same("feed", eye.feed(a, b, 0, a, b), model.feed(a, b, 0, a, b));
                break;
            case 1: a = in(0, 240); same("end(" + a + ")", eye.end(a) ? 1 : 0, model.end(a) ? 1 : 0); break;
            case 2: a = in(0, 1); same("fault(" + a + ")", eye.fault(a), model.fault(a)); break;
            case 3: a = in(0, 1); same("text(" + a + ")", eye.text(a), model.text(a)); break;
            case 4: a = in(0, 12); same("rule(" + a + ")", eye.rule(a), model.rule(a)); break;
            case 5: a = in(0, 1); b = in(0, 15); same("told(" + a + "," + b + ")", eye.told(a, b), model.told(a, b)); break;
            case 6: tap(in(0, 5), in(0, 1)); break;
            case 7: a = in(0, 18); same("now(" + a + ")", eye.now(a), model.now(a)); break;
            case 8: for (a = 0; a <= 18; a++) same("now(" + a + ")", eye.now(a), model.now(a)); break;
            case 9: a = in(0, 2); b = in(0, 5); same("ago(" + a + "," + b + ")", eye.ago(a, b), model.ago(a, b)); break;
            case 10: a = in(0, 9); same("risk(" + a + ")", eye.risk(a) ? 1 : 0, model.risk(a) ? 1 : 0); break;
            case 11: case 12: case 13: case 14: case 15:
                a = in(1, random.nextBoolean() ? 6 : 60); same("send(" + a + ")", eye.send(a), model.act("send", a, 0, -1)); break;
            case 16: a = in(0, 3); same("phase(" + a + ")", eye.phase(a), model.act("phase", a, 0, -1)); break;
            case 17: a = in(0, 1); same("hold(" + a + ")", eye.hold(a), model.act("hold", a, 0, -1)); break;
            case 18: a = in(0, 5); b = in(-255, 255); same("set(" + a + "," + b + ")", eye.set(a, b), model.act("tap", a, b, Model.HIDDEN)); break;
            case 19: a = in(0, 5); b = in(-12, 80); same("set(" + a + "," + b + ")", eye.set(a, b), model.act("tap", a, b, Model.HIDDEN)); break;
            case 20: same("drop()", eye.drop(), model.act("drop", 0, 0, -1)); break;
            case 21: a = in(0, 1); b = in(0, a == 0 ? 4 : 99); same("change(" + a + "," + b + ")", eye.change(a, b), model.change(a, b)); break;
            case 22: l = random.nextLong(); same("dice(" + l + ")", eye.dice(l), model.dice(l)); break;
            case 23: same("seek()", eye.seek(), model.act("seek", 0, 0, -1)); break;
            case 24: a = in(1, random.nextInt(4) == 0 ? 40 : 6); l = random.nextLong();
                same("years(" + a + "," + l + ")", eye.years(a, l), model.years(a, l)); break;
            case 25: a = in(0, 3); same("status(" + a + ")", eye.status(a), model.status(a)); break;
            case 26: case 27:
                for (a = within(1, random.nextInt(4) == 0 ? 40 : 3); a > 0; a--) same("undo()", eye.undo(), model.undo());
                break;
            case 28: a = in(0, 59); b = in(0, 2); same("log(" + a + "," + b + ")", eye.log(a, b), model.log(a, b)); break;
            case 29: for (a = within(0, 5); a <= 60; a += 6) for (b = 0; b < 3; b++) same("log(" + a + "," + b + ")", eye.log(a, b), model.log(a, b)); break;
            case 30: a = in(0, 3); b = in(0, 11); c = in(0, 2);
                same("step(" + a + "," + b + "," + c + ")", eye.step(a, b, c), model.step(a, b, c)); break;
            case 31: a = in(0, 3); b = in(0, 1); same("run(" + a + "," + b + ")", eye.run(a, b), model.run(a, b)); break;
            case 32: a = in(0, 3); same("perform(" + a + ")", eye.perform(a), model.perform(a)); break;
            case 33: a = in(0, 3); b = random.nextBoolean() ? in(-99, 99) : in(-9, 9);
                same("eye(" + a + "," + b + ")", eye.eye(a, b), model.eye(a, b)); break;
            case 34: a = in(0, 3); b = in(0, 3); same("opening(" + a + "," + b + ")", eye.opening(a, b), model.opening(a, b)); break;
            case 35: a = in(0, 63); b = in(0, 3); c = in(0, 1);
                same("weigh(" + a + "," + b + "," + c + ")", eye.weigh(a, b, c), model.weigh(a, b, c)); break;
            case 36: a = in(0, 2); same("map(" + a + ")", eye.map(a), model.map(a)); break;
            case 37: a = in(0, 3); same("bears(" + a + ")", eye.bears(a), model.bears(a)); break;
            case 38: a = in(0, 63); b = in(0, 1); same("burst(" + a + "," + b + ")", eye.burst(a, b), model.burst(a, b)); break;
            case 39: same("bursts()", eye.bursts(), model.bursts()); break;
            case 40: a = in(0, 7); same("unrolled(" + a + ")", eye.unrolled(a), model.unrolled(a)); break;
            case 41: a = in(0, 5); b = in(0, 1); same("improved(" + a + "," + b + ")", eye.improved(a, b), model.improved(a, b)); break;
            case 42: a = in(0, 20); same("settled(" + a + ")", eye.settled(a), model.settled(a)); break;
            case 43: a = in(0, 20); same("quickest(" + a + ")", eye.quickest(a), model.quickest(a)); break;
            case 44: a = in(0, 60); b = in(0, 12); same("coming(" + a + "," + b + ")", eye.coming(a, b), model.coming(a, b)); break;
            case 45: a = in(1, 60); same("gain(" + a + ")", eye.gain(a), model.gain(a));
                a = in(1, 6); b = in(0, 1); same("worst(" + a + "," + b + ")", eye.worst(a, b), model.worst(a, b)); break;
            case 46: // Model copies its whole history for each row of noise
                a = in(1, model.count(3) > 300 ? 1 : random.nextInt(8) == 0 ? 4 : 3);
                if (a > 2 && model.count(3) > 300) break;
                same("odds(" + a + ")", eye.odds(a), model.odds(a)); break;
            default:
                if (random.nextBoolean()) same("image()", eye.image(), model.image());
                else same("back()", eye.back(), model.back());
                for (a = -1; a <= 7; a++) same("count(" + a + ")", eye.count(a), model.count(a));
        }
    }

    private void tap(int tap, int what) {
        int got = 12345678;
        int due = 12345678;
        try {
            got = eye.tap(tap, what);
        } catch (NoSuchElementException e) {
            got = 87654321;
        }
        try {
            due = model.tap(tap, what);
        } catch (NoSuchElementException e) {
            due = 87654321;
        }
        same("tap(" + tap + "," + what + ")", got, due);
    }

    private void same(String call, int got, int due) {
        calls++;
        story.append("  ").append(call).append(" = ").append(due).append('\n');
        if (got != due && wrong++ == 0) System.out.println(story + "answered " + got + ", due is " + due);
    }
}
