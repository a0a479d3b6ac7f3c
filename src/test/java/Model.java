import java.util.ArrayList;
import java.util.Arrays;
import java.util.LinkedHashMap;
import java.util.List;
import java.util.Map;
import java.util.NoSuchElementException;

/**
 * The document once more, as slowly and as near to its words as can be: whole histories as lists, everything tried
 * out. ModelTest holds HuntedEye against it.
 */
final class Model {
    static final int NONE = -1;
    static final int HIDDEN = -1000000000;
    static final long A = 6364136223846793005L;
    static final long C = 1442695040888963407L;

    /** word -> {fewest numbers, most numbers, low, high, low of the second, high of the second} */
    static final Map<String, int[]> LINE_WORDS = new LinkedHashMap<>();
    static final Map<String, int[]> STEP_WORDS = new LinkedHashMap<>();
    static final Map<String, Integer> USUAL = new LinkedHashMap<>();

    static void lineWord(String word, int most, int low, int high, Integer usual) {
        LINE_WORDS.put(word, new int[] {1, most, low, high, low, high});
        if (usual != null) USUAL.put(word, usual);
    }

    static {
        lineWord("pulse", 16, -60, 60, null);
        lineWord("fore", 1, 1, 3, 2);
        lineWord("back", 1, 0, 3, 2);
        lineWord("delay", 1, 0, 2, 0);
        lineWord("level", 1, 1, 99, 40);
        lineWord("gear", 1, 1, 9, 1);
        lineWord("floor", 1, 0, 60, 4);
        lineWord("noise", 1, 0, 4, 0);
        lineWord("train", 1, 0, 99, 0);
        lineWord("seed", 1, 1, 127, 1);
        lineWord("track", 1, 0, 1, 0);
        lineWord("lock", 1, 0, 9, 0);
        lineWord("word", 16, 0, 1, null);
        STEP_WORDS.put("send", new int[] {1, 1, 1, 60, 0, 0});
        STEP_WORDS.put("phase", new int[] {1, 1, 0, 3, 0, 0});
        STEP_WORDS.put("hold", new int[] {1, 1, 0, 1, 0, 0});
        STEP_WORDS.put("tap", new int[] {2, 2, 0, 5, -255, 255});
        STEP_WORDS.put("drop", new int[] {0, 0, 0, 0, 0, 0});
        STEP_WORDS.put("noise", new int[] {1, 1, 0, 4, 0, 0});
        STEP_WORDS.put("train", new int[] {1, 1, 0, 99, 0, 0});
        STEP_WORDS.put("seek", new int[] {0, 0, 0, 0, 0, 0});
    }

    // ---- texts

    record Part(char kind, int at, String text) { }

    record Phrase(String word, List<Integer> numbers) { }

    static final class Fault extends Exception {
        private static final long serialVersionUID = 1L;
        final int at;

        Fault(int at) {
            this.at = at;
        }
    }

    static List<Part> parts(String text) {
        List<Part> parts = new ArrayList<>();
        java.util.regex.Matcher m = java.util.regex.Pattern.compile("[a-z]+|-?[0-9]+|[;,]| |(?s:.)").matcher(text);
        while (m.find()) {
            String s = m.group();
            if (s.equals(" ")) continue;
            char kind = s.matches("[a-z]+") ? 'w' : s.matches("-?[0-9]+") ? 'n' : s.matches("[;,]") ? s.charAt(0) : '?';
            parts.add(new Part(kind, m.start(), s));
        }
        parts.add(new Part('$', text.length(), ""));
        return parts;
    }

    static List<Phrase> parse(String text, Map<String, int[]> words, boolean once, int mostPhrases) throws Fault {
        List<Part> parts = parts(text);
        List<Phrase> found = new ArrayList<>();
        int i = 0;
        while (true) {
            Part word = parts.get(i++);
            if (word.kind() != 'w' || !words.containsKey(word.text())) throw new Fault(word.at());
            if (once && found.stream().anyMatch(p -> p.word().equals(word.text()))) throw new Fault(word.at());
            int[] rule = words.get(word.text());
            Phrase phrase = new Phrase(word.text(), new ArrayList<>());
            found.add(phrase);
            while (true) {
                int have = phrase.numbers().size();
                Part next = parts.get(i);
                if (have > 0) {
                    if (next.kind() == ',' && have < rule[1]) {
                        i++;
                    } else if (have < rule[0]) {
                        throw new Fault(next.at());
                    } else {
                        break;
                    }
                } else if (rule[1] == 0) {
                    break;
                }
                Part number = parts.get(i++);
                if (number.kind() != 'n') throw new Fault(number.at());
                java.math.BigInteger v = new java.math.BigInteger(number.text());
                int low = have == 0 ? rule[2] : rule[4];
                int high = have == 0 ? rule[3] : rule[5];
                if (v.bitLength() > 20 || v.intValue() < low || v.intValue() > high) throw new Fault(number.at());
                phrase.numbers().add(v.intValue());
            }
            Part mark = parts.get(i++);
            if (mark.kind() == '$') return found;
            if (mark.kind() != ';' || found.size() == mostPhrases) throw new Fault(mark.at());
        }
    }

    static List<Phrase> parseLine(String text) throws Fault {
        List<Phrase> found = parse(text, LINE_WORDS, true, 1000);
        if (found.stream().noneMatch(p -> p.word().equals("pulse"))) throw new Fault(text.length());
        return found;
    }

    static List<Phrase> parseScript(String text) throws Fault {
        return parse(text, STEP_WORDS, false, 12);
    }

    // ---- the state

    static final class S {
        List<Integer> sent = new ArrayList<>();
        List<Integer> kept = new ArrayList<>();
        List<Integer> samples = new ArrayList<>();
        List<Integer> errors = new ArrayList<>();
        List<Boolean> wrongs = new ArrayList<>();
        List<Boolean> quiets = new ArrayList<>();
        List<Boolean> learnts = new ArrayList<>();
        List<int[]> log = new ArrayList<>();
        int[] taps;
        int[] votes;
        int level;
        int levelVotes;
        int phase;
        int phaseVotes;
        boolean held;
        boolean dark;
        boolean dropped;
        int noise;
        int train;
        int register;
        int gear;
        long x;
        int[] tapsThen;
        List<Integer> samplesThen;

        S copy() {
            S s = new S();
            s.sent = new ArrayList<>(sent);
            s.kept = new ArrayList<>(kept);
            s.samples = new ArrayList<>(samples);
            s.errors = new ArrayList<>(errors);
            s.wrongs = new ArrayList<>(wrongs);
            s.quiets = new ArrayList<>(quiets);
            s.learnts = new ArrayList<>(learnts);
            s.log = new ArrayList<>(log);
            s.taps = taps.clone();
            s.votes = votes.clone();
            s.level = level;
            s.levelVotes = levelVotes;
            s.phase = phase;
            s.phaseVotes = phaseVotes;
            s.held = held;
            s.dark = dark;
            s.dropped = dropped;
            s.noise = noise;
            s.train = train;
            s.register = register;
            s.gear = gear;
            s.x = x;
            s.tapsThen = tapsThen;
            s.samplesThen = samplesThen;
            return s;
        }

        int t() {
            return sent.size();
        }

        long wrong() {
            return wrongs.stream().filter(w -> w).count();
        }
    }

    StringBuilder tape = new StringBuilder();
    Map<String, List<Integer>> line;
    List<List<Phrase>> scripts = new ArrayList<>();
    S s;
    S image;
    List<S> past = new ArrayList<>();
    int risk = 3;
    int[] status = new int[4];

    int one(String word) {
        List<Integer> told = line.get(word);
        return told == null ? USUAL.get(word) : told.get(0);
    }

    // asked for so often that they are kept
    private int fore;
    private int backs;
    private int delay;
    private int[] pulse;

    int fore() {
        return fore;
    }

    int back0() {
        return backs;
    }

    int pulseAt(int i) {
        return i < pulse.length ? pulse[i] : 0;
    }

    static int ago(List<Integer> row, int i) {
        int at = row.size() - 1 - i;
        return at >= 0 ? row.get(at) : 0;
    }

    static int clamp(int v, int low, int high) {
        return Math.max(low, Math.min(high, v));
    }

    /** given: the noise, or null for a draw. */
    boolean symbol(S s, Integer given) {
        int bit;
        if (line.containsKey("word")) {
            bit = line.get("word").get(s.t() % line.get("word").size());
        } else {
            bit = s.register % 2;
            int b0 = s.register % 2;
            int b1 = s.register / 2 % 2;
            s.register = s.register / 2 + (b0 != b1 ? 64 : 0);
        }
        s.sent.add(bit == 1 ? 1 : -1);
        int sample = 0;
        for (int k = 0; 4 * k + s.phase < pulse.length; k++) {
            sample += pulseAt(4 * k + s.phase) * ago(s.sent, k);
        }
        if (given != null) {
            sample += given;
        } else if (s.noise > 0) {
            s.x = s.x * A + C;
            sample += (int) ((s.x >>> 33) % (2 * s.noise + 1)) - s.noise;
        }
        boolean missing = s.dropped;
        s.dropped = false;
        if (missing) sample = 0;
        s.samples.add(sample);
        int z = 0;
        for (int i = 0; i < fore(); i++) z += s.taps[i] * ago(s.samples, i);
        for (int j = 1; j <= back0(); j++) z -= 64 * s.taps[fore() + j - 1] * ago(s.kept, j - 1);
        s.tapsThen = s.taps.clone();
        s.samplesThen = List.of(ago(s.samples, 0), ago(s.samples, 1), ago(s.samples, 2));
        int decision = z >= 0 ? 1 : -1;
        int truth = ago(s.sent, delay);
        boolean trained = s.train > 0 && truth != 0;
        if (s.train > 0) s.train--;
        boolean wrong = truth != 0 && truth != decision;
        s.kept.add(trained ? truth : decision);
        int kept = ago(s.kept, 0);
        int error = z - 64 * s.level * kept;
        s.errors.add(Integer.signum(error));
        s.quiets.add(missing || Math.abs(sample) < one("floor"));
        if (inARow(s.quiets, true) >= 4) s.dark = true;
        if (inARow(s.quiets, false) >= 4) s.dark = false;
        boolean learns = !s.held && !s.dark && !missing;
        s.learnts.add(learns);
        if (learns) learn(s);
        s.wrongs.add(wrong);
        int sum = bit + (decision == 1 ? 2 : 0) + (wrong ? 4 : 0) + (s.dark ? 8 : 0) + (learns ? 16 : 0) + (trained ? 32 : 0);
        s.log.add(new int[] {missing ? HIDDEN : sample, z, sum});
        return wrong;
    }

    static int inARow(List<Boolean> row, boolean v) {
        int n = 0;
        while (n < row.size() && row.get(row.size() - 1 - n) == v) n++;
        return n;
    }

    void learn(S s) {
        int sign = ago(s.errors, 0);
        for (int i = 0; i < s.taps.length; i++) {
            if (i < fore()) {
                s.votes[i] -= Integer.signum(ago(s.samples, i)) * sign;
            } else {
                s.votes[i] += ago(s.kept, i - fore() + 1) * sign;
            }
            if (Math.abs(s.votes[i]) >= s.gear) {
                s.taps[i] = clamp(s.taps[i] + Integer.signum(s.votes[i]), -255, 255);
                s.votes[i] = 0;
            }
        }
        if (one("track") == 1) {
            s.levelVotes += ago(s.kept, 0) * sign;
            if (Math.abs(s.levelVotes) >= s.gear) {
                s.level = clamp(s.level + Integer.signum(s.levelVotes), 1, 99);
                s.levelVotes = 0;
            }
        }
        int lock = one("lock");
        if (lock > 0) {
            s.phaseVotes += sign * ago(s.kept, 1) - ago(s.errors, 1) * ago(s.kept, 0);
            if (Math.abs(s.phaseVotes) >= lock) {
                s.phase = clamp(s.phase + Integer.signum(s.phaseVotes), 0, 3);
                s.phaseVotes = 0;
            }
        }
    }

    /** {ended, longest, open length, rights in the open one} from the whole history */
    int[] runs(S s) {
        int ended = 0;
        int longest = 0;
        int first = -1;
        int last = -1;
        for (int i = 0; i < s.wrongs.size(); i++) {
            if (s.wrongs.get(i)) {
                if (first < 0) first = i;
                last = i;
            } else if (first >= 0 && i - last == Math.max(1, back0())) {
                ended++;
                longest = Math.max(longest, last - first + 1);
                first = -1;
            }
        }
        int n = s.wrongs.size();
        return new int[] {ended, longest, first < 0 ? 0 : n - first, first < 0 ? 0 : n - 1 - last};
    }

    // ---- calls

    int feed(int... five) {
        StringBuilder more = new StringBuilder();
        for (int v : five) {
            for (byte b : java.nio.ByteBuffer.allocate(4).putInt(v).array()) {
                if (b != 0) more.append((char) (b & 255));
            }
        }
        if (tape.length() + more.length() > 240) return NONE;
        return tape.append(more).length();
    }

    boolean end(int n) {
        if (n < 0 || n > tape.length()) return false;
        tape.setLength(n);
        return true;
    }

    int fault(int sort) {
        if (sort != 0 && sort != 1) return -2;
        try {
            if (sort == 0) {
                parseLine(tape.toString());
            } else {
                parseScript(tape.toString());
            }
            return NONE;
        } catch (Fault f) {
            return f.at;
        }
    }

    int text(int sort) {
        if (sort != 0 && sort != 1 || fault(sort) != NONE || sort == 1 && scripts.size() == 4) return NONE;
        try {
            if (sort == 1) {
                scripts.add(parseScript(tape.toString()));
                tape.setLength(0);
                return scripts.size() - 1;
            }
            line = new LinkedHashMap<>();
            for (Phrase p : parseLine(tape.toString())) line.put(p.word(), p.numbers());
        } catch (Fault f) {
            throw new IllegalStateException(f);
        }
        fore = one("fore");
        backs = one("back");
        delay = one("delay");
        pulse = line.get("pulse").stream().mapToInt(v -> v).toArray();
        tape.setLength(0);
        past.clear();
        image = null;
        s = new S();
        s.taps = new int[fore() + back0()];
        s.votes = new int[fore() + back0()];
        s.taps[0] = 64;
        s.level = one("level");
        s.noise = one("noise");
        s.train = one("train");
        s.register = one("seed");
        s.gear = one("gear");
        return s.taps.length;
    }

    int rule(int what) {
        if (line == null || what < 0 || what > 12) return NONE;
        String word = new ArrayList<>(LINE_WORDS.keySet()).get(what);
        if (what == 0 || what == 12) return line.containsKey(word) ? line.get(word).size() : 0;
        return one(word);
    }

    int told(int which, int i) {
        if (line == null || which < 0 || which > 1) return HIDDEN;
        List<Integer> row = line.get(which == 0 ? "pulse" : "word");
        return row == null || i < 0 || i >= row.size() ? HIDDEN : row.get(i);
    }

    boolean noTap(int tap) {
        return line == null || tap < 0 || tap >= s.taps.length;
    }

    int tap(int tap, int what) {
        if (noTap(tap) || what < 0 || what > 1) throw new NoSuchElementException();
        return what == 0 ? s.taps[tap] : s.votes[tap];
    }

    int now(int what) {
        if (line == null || what < 0 || what > 18) return HIDDEN;
        int[] runs = runs(s);
        int learnt = (int) s.learnts.stream().filter(l -> l).count();
        int[] all = {s.t(), s.phase, s.held ? 1 : 0, s.dark ? 1 : 0, s.noise, s.train, s.register, s.dropped ? 1 : 0,
            Math.min(4, inARow(s.quiets, true)), Math.min(4, inARow(s.quiets, false)), (int) s.wrong(), learnt,
            runs[0], runs[1], runs[2], runs[3], s.level, s.levelVotes, s.phaseVotes};
        return all[what];
    }

    int ago(int what, int i) {
        if (line == null || what < 0 || what > 2 || i < 0 || i > (what == 0 ? 5 : 2)) return HIDDEN;
        return ago(what == 0 ? s.sent : what == 1 ? s.kept : s.samples, i);
    }

    boolean risk(int v) {
        if (v < 0 || v > 9 || v == risk) return false;
        risk = v;
        return true;
    }

    /** -1: it can be; else the STATUS */
    int refusal(S s, String act, int a, int b) {
        if (line == null) return 0;
        switch (act) {
            case "send": return a < 1 || a > 60 ? 1 : s.t() + a > 9999 ? 3 : -1;
            case "phase": return a < 0 || a > 3 ? 1 : a == s.phase ? 2 : -1;
            case "hold": return a < 0 || a > 1 ? 1 : (a == 1) == s.held ? 2 : -1;
            case "tap": return a < 0 || a >= s.taps.length ? 0 : b < -255 || b > 255 ? 1 : b == s.taps[a] ? 2 : -1;
            case "drop": return s.dropped ? 2 : -1;
            case "noise": return a < 0 || a > 4 ? 1 : a == s.noise ? 2 : -1;
            case "train": return a < 0 || a > 99 ? 1 : a == s.train ? 2 : -1;
            case "seek": return sought(s) == s.phase ? 2 : -1;
            default: throw new IllegalStateException();
        }
    }

    int sought(S s) {
        int at = s.phase;
        while (true) {
            int best = at;
            for (int p = Math.max(0, at - 1); p <= Math.min(3, at + 1); p++) {
                if (height(s, p) > height(s, best)) best = p;
            }
            if (best == at) return at;
            // of equal ones the lower: those next to it alone are compared
            if (at > 0 && at < 3 && height(s, at - 1) > height(s, at) && height(s, at - 1) >= height(s, at + 1)) best = at - 1;
            at = best;
        }
    }

    int apply(S s, String act, int a, int b) {
        int was;
        switch (act) {
            case "send":
                int wrong = 0;
                for (int i = 0; i < a; i++) wrong += symbol(s, null) ? 1 : 0;
                return wrong;
            case "phase": was = s.phase; s.phase = a; return was;
            case "hold": was = s.held ? 1 : 0; s.held = a == 1; return was;
            case "tap": was = s.taps[a]; s.taps[a] = b; s.votes[a] = 0; return was;
            case "drop": s.dropped = true; return s.t();
            case "noise": was = s.noise; s.noise = a; return was;
            case "train": was = s.train; s.train = a; return was;
            case "seek": s.phase = sought(s); return s.phase;
            default: throw new IllegalStateException();
        }
    }

    void remember() {
        past.add(s.copy());
        if (past.size() > 40) past.remove(0);
    }

    int act(String act, int a, int b, int refused) {
        int why = refusal(s, act, a, b);
        if (why >= 0) {
            status[why]++;
            return refused;
        }
        remember();
        return apply(s, act, a, b);
    }

    int change(int what, int v) {
        if (line != null && what != 0 && what != 1) {
            status[1]++;
            return NONE;
        }
        return act(what == 0 ? "noise" : "train", v, 0, NONE);
    }

    int dice(long v) {
        if (line == null) {
            status[0]++;
            return NONE;
        }
        remember();
        s.x = v;
        return s.t();
    }

    int years(int n, long seed) {
        if (line == null || n < 1 || n > 40) return NONE;
        long[] y = {seed};
        for (int i = 0; i < n; i++) {
            remember();
            if (draw(y, 10) < risk) {
                switch (draw(y, 4)) {
                    case 0: s.dropped = true; break;
                    case 1: s.phase = draw(y, 4); break;
                    case 2: s.noise = draw(y, 5); break;
                    default: s.held = !s.held;
                }
            }
            int many = draw(y, 8) + 1;
            for (int k = 0; k < many && s.t() < 9999; k++) symbol(s, null);
        }
        return s.t();
    }

    static int draw(long[] y, int j) {
        y[0] = y[0] * A + C;
        return (int) ((y[0] >>> 33) % j);
    }

    int status(int what) {
        return what < 0 || what > 3 ? NONE : status[what];
    }

    int undo() {
        if (past.isEmpty()) return NONE;
        s = past.remove(past.size() - 1);
        return past.size();
    }

    int log(int i, int what) {
        if (line == null || i < 0 || i >= Math.min(60, s.log.size()) || what < 0 || what > 2) return HIDDEN;
        return s.log.get(s.log.size() - 1 - i)[what];
    }

    int step(int script, int i, int what) {
        if (script < 0 || script >= scripts.size() || i < 0 || i >= scripts.get(script).size()) return HIDDEN;
        Phrase p = scripts.get(script).get(i);
        if (what == 0) return new ArrayList<>(STEP_WORDS.keySet()).indexOf(p.word());
        return what < 1 || what > p.numbers().size() ? HIDDEN : p.numbers().get(what - 1);
    }

    static int number(Phrase p, int i) {
        return i < p.numbers().size() ? p.numbers().get(i) : 0;
    }

    int run(int script, int what) {
        if (line == null || script < 0 || script >= scripts.size() || what < 0 || what > 1) return HIDDEN;
        S s = this.s.copy();
        long before = s.wrong();
        int done = 0;
        for (Phrase p : scripts.get(script)) {
            if (refusal(s, p.word(), number(p, 0), number(p, 1)) >= 0) break;
            apply(s, p.word(), number(p, 0), number(p, 1));
            done++;
        }
        return what == 1 ? (int) (s.wrong() - before) : done == scripts.get(script).size() ? NONE : done;
    }

    int perform(int script) {
        if (line == null || script < 0 || script >= scripts.size()) return NONE;
        int done = 0;
        for (Phrase p : scripts.get(script)) {
            if (refusal(s, p.word(), number(p, 0), number(p, 1)) >= 0) break;
            remember();
            apply(s, p.word(), number(p, 0), number(p, 1));
            done++;
        }
        return done;
    }

    // ---- rows

    static int bit(int row, int k) {
        if (k > 5) throw new IllegalStateException("beyond the sixth");
        return (row & 1 << k) != 0 ? 1 : -1;
    }

    int sampleOf(int row, int phase, int i) {
        int sum = 0;
        for (int k = 0; 4 * k + phase < pulse.length; k++) sum += pulseAt(4 * k + phase) * bit(row, i + k);
        return sum;
    }

    int truth(int row) {
        return bit(row, delay);
    }

    int rowZ(S s, int row, int phase, int[] noise) {
        int z = 0;
        for (int i = 0; i < fore(); i++) z += s.taps[i] * (sampleOf(row, phase, i) + noise[i]);
        for (int j = 1; j <= back0(); j++) z -= 64 * s.taps[fore() + j - 1] * bit(row, delay + j);
        return z;
    }

    int rowZ(S s, int row, int phase) {
        return rowZ(s, row, phase, new int[3]);
    }

    int eyeOf(S s, int phase, int v) {
        int n = 0;
        for (int row = 0; row < 64; row++) n += (rowZ(s, row, phase) >= 64 * v) == (truth(row) == 1) ? 1 : 0;
        return n;
    }

    int eye(int phase, int v) {
        return line == null || phase < 0 || phase > 3 || v < -99 || v > 99 ? NONE : eyeOf(s, phase, v);
    }

    int[] highLow(S s, int phase) {
        int high = 1 << 30;
        int low = -(1 << 30);
        for (int row = 0; row < 64; row++) {
            int z = rowZ(s, row, phase);
            if (truth(row) == 1) high = Math.min(high, z);
            else low = Math.max(low, z);
        }
        return new int[] {high, low};
    }

    int height(S s, int phase) {
        int[] hl = highLow(s, phase);
        return hl[0] - hl[1];
    }

    int opening(int phase, int what) {
        if (line == null || phase < 0 || phase > 3 || what < 0 || what > 3) return HIDDEN;
        int[] hl = highLow(s, phase);
        return what < 2 ? hl[what] : what == 2 ? hl[0] - hl[1] : (int) Math.floor((hl[0] + hl[1]) / 2.0);
    }

    int weigh(int row, int phase, int what) {
        if (line == null || phase < 0 || phase > 3 || row < 0 || row > 63 || what < 0 || what > 1) return HIDDEN;
        return what == 0 ? rowZ(s, row, phase) : truth(row);
    }

    int map(int what) {
        if (line == null || what < 0 || what > 2) return NONE;
        int[] by = new int[4];
        for (int p = 0; p < 4; p++) {
            for (int v = -s.level; v <= s.level; v++) by[p] += eyeOf(s, p, v) == 64 ? 1 : 0;
        }
        int best = 0;
        for (int p = 1; p < 4; p++) if (by[p] > by[best]) best = p;
        return what == 0 ? Arrays.stream(by).sum() : what == 1 ? best : by[best];
    }

    int bears(int phase) {
        if (line == null || phase < 0 || phase > 3) return HIDDEN;
        int best = NONE;
        for (int n = 0; n <= 99; n++) {
            boolean all = true;
            for (int row = 0; row < 64; row++) {
                // Z is greatest and least where each noise is greatest or least.
                for (int c = 0; c < 8; c++) {
                    int[] noise = {(c & 1) != 0 ? n : -n, (c & 2) != 0 ? n : -n, (c & 4) != 0 ? n : -n};
                    all &= (rowZ(s, row, phase, noise) >= 0) == (truth(row) == 1);
                }
            }
            if (all) best = n;
        }
        return best;
    }

    /** {followed, wrong} at most from here; null without end */
    int[] follow(S s, int row, List<Boolean> wrongs, java.util.Set<String> way, Map<String, int[]> known) {
        boolean any = false;
        for (int j = 0; j < back0(); j++) any |= wrongs.get(wrongs.size() - 1 - j);
        if (!any) return new int[] {0, 0};
        String key = row + "/" + wrongs.subList(wrongs.size() - back0(), wrongs.size());
        if (known.containsKey(key)) return known.get(key);
        // a way that comes by where it was can go round for ever
        if (!way.add(key)) return null;
        int[] most = {0, 0};
        for (int bit = 0; bit < 2 && most != null; bit++) {
            int r = row * 2 % 64 + bit;
            int z = 0;
            for (int i = 0; i < fore(); i++) z += s.taps[i] * sampleOf(r, s.phase, i);
            for (int j = 1; j <= back0(); j++) {
                int kept = bit(r, delay + j) * (wrongs.get(wrongs.size() - j) ? -1 : 1);
                z -= 64 * s.taps[fore() + j - 1] * kept;
            }
            boolean wrong = (z >= 0) != (truth(r) == 1);
            List<Boolean> then = List.of(wrongs.get(1), wrongs.get(2), wrongs.get(3), wrong);
            int[] f = follow(s, r, then, way, known);
            most = f == null ? null : new int[] {Math.max(most[0], f[0] + 1), Math.max(most[1], f[1] + (wrong ? 1 : 0))};
        }
        way.remove(key);
        known.put(key, most);
        return most;
    }

    int burst(int row, int what) {
        return burst(row, what, new java.util.HashMap<>());
    }

    int burst(int row, int what, Map<String, int[]> known) {
        if (line == null || row < 0 || row > 63 || what < 0 || what > 1) return NONE;
        int[] f = follow(s, row, List.of(false, false, false, true), new java.util.HashSet<>(), known);
        return f == null ? HIDDEN : f[what] + what;
    }

    int bursts() {
        if (line == null) return NONE;
        int best = 0;
        long most = -1;
        Map<String, int[]> known = new java.util.HashMap<>();
        for (int row = 0; row < 64; row++) {
            int n = burst(row, 0, known);
            long worth = n == HIDDEN ? 1L << 40 : n;
            if (worth > most) {
                most = worth;
                best = row;
            }
        }
        return best;
    }

    int unrolled(int row) {
        if (line == null || s.t() == 0 || row < 0 || row >= Math.pow(2, back0())) return HIDDEN;
        int z = 0;
        for (int i = 0; i < fore(); i++) z += s.tapsThen[i] * s.samplesThen.get(i);
        for (int j = 1; j <= back0(); j++) z -= 64 * s.tapsThen[fore() + j - 1] * bit(row, j - 1);
        return z;
    }

    int improved(int tap, int what) {
        if (noTap(tap) || what < 0 || what > 1) return HIDDEN;
        int best = HIDDEN;
        int most = HIDDEN;
        for (int v = -255; v <= 255; v++) {
            if (Math.abs(v - s.taps[tap]) > 31) continue;
            S then = s.copy();
            then.taps[tap] = v;
            int h = height(then, s.phase);
            if (best == HIDDEN || h > most) {
                best = v;
                most = h;
            }
        }
        return what == 0 ? best : most;
    }

    int settledBy(int b, int gear) {
        S then = s.copy();
        then.gear = gear;
        List<int[]> taps = new ArrayList<>();
        taps.add(then.taps.clone());
        for (int i = 0; i < 232; i++) {
            symbol(then, null);
            taps.add(then.taps.clone());
        }
        for (int n = 0; n <= 200; n++) {
            boolean keeps = true;
            for (int m = n; m <= n + 32; m++) {
                for (int i = 0; i < s.taps.length; i++) keeps &= Math.abs(taps.get(m)[i] - taps.get(n)[i]) <= b;
            }
            if (keeps) return n;
        }
        return NONE;
    }

    int settled(int b) {
        return line == null || b < 0 || b > 20 ? NONE : settledBy(b, one("gear"));
    }

    int quickest(int b) {
        if (line == null || b < 0 || b > 20) return NONE;
        int best = NONE;
        int soonest = 1000;
        for (int g = 1; g <= 9; g++) {
            int n = settledBy(b, g);
            if (n != NONE && n < soonest) {
                soonest = n;
                best = g;
            }
        }
        return best;
    }

    int coming(int n, int what) {
        if (line == null || n < 0 || n > 60 || what < 0 || what > 12 || what < 6 && noTap(what)) return HIDDEN;
        S then = s.copy();
        int wrong = apply(then, "send", n, 0);
        if (what < 6) return then.taps[what];
        int z = then.log.isEmpty() ? 0 : Math.abs(then.log.get(then.log.size() - 1)[1]);
        return new int[] {wrong, z, then.t(), runs(then)[0], then.dark ? 1 : 0, then.phase, then.level}[what - 6];
    }

    int gain(int n) {
        if (line == null || n < 1 || n > 60) return HIDDEN;
        S held = s.copy();
        held.held = true;
        S not = s.copy();
        not.held = false;
        return apply(held, "send", n, 0) - apply(not, "send", n, 0);
    }

    int worst(int n, int what) {
        if (line == null || n < 1 || n > 6 || what < 0 || what > 1) return NONE;
        int best = -1;
        int most = -1;
        for (int k = 0; k < n; k++) {
            S then = s.copy();
            int wrong = 0;
            for (int i = 0; i < 40; i++) {
                if (i == k) then.dropped = true;
                wrong += symbol(then, null) ? 1 : 0;
            }
            if (wrong > most) {
                most = wrong;
                best = k;
            }
        }
        return what == 0 ? best : most;
    }

    int odds(int n) {
        if (line == null || n < 1 || n > 4) return NONE;
        int each = 2 * s.noise + 1;
        int rows = (int) Math.pow(each, n);
        int right = 0;
        for (int r = 0; r < rows; r++) {
            S then = s.copy();
            boolean any = false;
            for (int i = 0, rest = r; i < n; i++, rest /= each) any |= symbol(then, rest % each - s.noise);
            right += any ? 0 : 1;
        }
        return right;
    }

    int image() {
        if (line == null) return NONE;
        image = s.copy();
        return s.t();
    }

    int back() {
        if (image == null) return NONE;
        s = image.copy();
        past.clear();
        return s.t();
    }

    int count(int what) {
        switch (what) {
            case 0: return line == null ? 0 : s.taps.length;
            case 1: return scripts.size();
            case 2: return tape.length();
            case 3: return line == null ? 0 : s.t();
            case 4: return risk;
            case 5: return line == null ? 0 : Math.min(60, s.log.size());
            case 6: return past.size();
            default: return HIDDEN;
        }
    }
}
