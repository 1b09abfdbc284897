import java.util.ArrayList;
import java.util.Arrays;
import java.util.HashMap;
import java.util.HashSet;
import java.util.List;
import java.util.Map;
import java.util.Set;
import java.util.TreeMap;
import java.util.regex.Matcher;
import java.util.regex.Pattern;

/** The document once more, written as plainly as can be and without regard to speed, to compare answers with. */
final class Model {
    private static final int BAD = -1, STATE = -2, FULL = -3, NONE = -4;
    private static final List<String> TERMS = List.of("high", "low", "rise", "fall", "is", "not", "after");

    private record Term(int kind, int number) {
    }

    private record Branch(List<Term> cond, int times, int to) {
    }

    private record Pulse(int begin, int length, boolean high) {
    }

    private record Program(List<List<Branch>> states, List<Term> keep, int depth, int ahead, int lines) {
    }

    private static final class Fault extends RuntimeException {
        private static final long serialVersionUID = 1L;
        private final int code;
        private final int place;

        Fault(int code, int place) {
            // Without the trace of calls, which takes the most time.
            super(null, null, false, false);
            this.code = code;
            this.place = place;
        }
    }

    /** Reads a text by descent and stops at the first fault by a throw. */
    private static final class Parser {
        private static final Pattern TOKEN = Pattern.compile("[a-z]+|([0-9]+)|[;|&]");

        private final String text;
        private int start;
        private String token;
        private final List<List<Branch>> states = new ArrayList<>();
        private final Map<String, Integer> told = new HashMap<>();
        private List<Term> keep = null;

        Parser(String text) {
            this.text = text;
            lex(0);
        }

        private void lex(int from) {
            int i = from;
            while (i < text.length() && text.charAt(i) == ' ') {
                i++;
            }
            start = i;
            Matcher m = TOKEN.matcher(text).region(i, text.length());
            if (i == text.length()) {
                token = "";
            } else if (m.lookingAt() && (m.group(1) == null || m.group(1).length() <= 3)) {
                token = m.group();
            } else {
                throw new Fault(1, start);
            }
        }

        private void shift() {
            lex(start + token.length());
        }

        private void want(String s) {
            if (!token.equals(s)) {
                throw new Fault(2, start);
            }
            shift();
        }

        private int number(int low, int high) {
            if (token.isEmpty() || !Character.isDigit(token.charAt(0))) {
                throw new Fault(2, start);
            }
            int n = Integer.parseInt(token);
            if (n < low || n > high) {
                throw new Fault(3, start);
            }
            shift();
            return n;
        }

        private List<Term> cond() {
            List<Term> terms = new ArrayList<>();
            while (true) {
                int kind = TERMS.indexOf(token);
                if (kind < 0) {
                    throw new Fault(2, start);
                }
                shift();
                int high = kind < 4 ? 7 : kind < 6 ? 255 : 999;
                terms.add(new Term(kind, number(kind == 6 ? 1 : 0, high)));
                if (!token.equals("&")) {
                    return terms;
                }
                if (terms.size() == 3) {
                    throw new Fault(5, start);
                }
                shift();
            }
        }

        private Branch branch() {
            List<Term> cond = cond();
            int times = 1;
            if (token.equals("times")) {
                shift();
                times = number(1, 99);
            }
            want("go");
            int to = 8;
            if (token.equals("hit")) {
                shift();
            } else {
                to = number(0, 7);
            }
            return new Branch(cond, times, to);
        }

        private void stateLine() {
            if (states.size() == 8) {
                throw new Fault(5, start);
            }
            List<Branch> branches = new ArrayList<>();
            states.add(branches);
            do {
                if (branches.size() == 3) {
                    throw new Fault(5, start);
                }
                shift();
                branches.add(branch());
            } while (token.equals("|"));
            want(";");
        }

        private void otherLine(String name) {
            if (told.containsKey(name)) {
                throw new Fault(4, start);
            }
            shift();
            if (name.equals("keep")) {
                keep = cond();
                told.put(name, 0);
            } else {
                told.put(name, name.equals("depth") ? number(1, 400) : number(0, 399));
            }
            want(";");
        }

        Program program() {
            int lines = 0;
            while (!token.isEmpty()) {
                switch (token) {
                    case "state" -> stateLine();
                    case "keep", "depth", "ahead" -> otherLine(token);
                    default -> throw new Fault(2, start);
                }
                lines++;
            }
            int depth = told.getOrDefault("depth", 100);
            int ahead = told.getOrDefault("ahead", 0);
            boolean lost = states.stream().flatMap(List::stream).anyMatch(b -> b.to != 8 && b.to >= states.size());
            if (lost || ahead >= depth) {
                throw new Fault(6, text.length());
            }
            return new Program(states, keep, depth, ahead, lines);
        }
    }

    private Program program = new Program(new ArrayList<>(), null, 100, 0, 0);
    private String tape = "";
    private int fault = 0;
    private int torn = 0;
    private List<Integer> trace = new ArrayList<>();
    private final List<List<Integer>> images = new ArrayList<>(Arrays.asList(null, null));
    private final Object[] sheets = new Object[4];

    // ---- the text

    int feed(long v) {
        if (tape.length() + 8 > 400) {
            return FULL;
        }
        for (int i = 7; i >= 0; i--) {
            tape += (char) (v >>> (8 * i) & 0xFF);
        }
        return tape.length();
    }

    int end(int n) {
        if (n < 0 || n > tape.length()) {
            return BAD;
        }
        int had = tape.length();
        tape = tape.substring(0, n);
        return had;
    }

    int text() {
        String text = tape;
        tape = "";
        try {
            program = new Parser(text).program();
            fault = 0;
            return program.lines;
        } catch (Fault f) {
            fault = f.code;
            return -10 - f.place;
        }
    }

    int fault() {
        return fault;
    }

    int rule(int what) {
        if (what >= 10 && what - 10 < program.states.size()) {
            return program.states.get(what - 10).size();
        }
        return switch (what) {
            case 0 -> program.states.size();
            case 1 -> program.depth;
            case 2 -> program.ahead;
            case 3 -> program.keep == null ? 0 : program.keep.size();
            default -> BAD;
        };
    }

    int branch(int s, int b, int what) {
        if (s < 0 || s >= program.states.size() || b < 0 || b >= program.states.get(s).size()) {
            return BAD;
        }
        Branch branch = program.states.get(s).get(b);
        int terms = branch.cond.size();
        if (what >= 10 && what < 10 + terms) {
            return branch.cond.get(what - 10).kind;
        }
        if (what >= 20 && what < 20 + terms) {
            return branch.cond.get(what - 20).number;
        }
        return what == 0 ? terms : what == 1 ? branch.times : what == 2 ? branch.to : BAD;
    }

    // ---- samples

    int see(int n, int v) {
        if (n < 1 || n > 400 || v < 0 || v > 255) {
            return BAD;
        }
        if (trace.size() + n > 400) {
            return FULL;
        }
        for (int i = 0; i < n; i++) {
            trace.add(v);
        }
        return trace.size();
    }

    int cut(int n) {
        if (n < 0 || n > trace.size()) {
            return BAD;
        }
        int had = trace.size();
        trace = new ArrayList<>(trace.subList(0, n));
        return had;
    }

    private boolean isSample(int i) {
        return i >= 0 && i < trace.size();
    }

    int at(int i) {
        return isSample(i) ? trace.get(i) : BAD;
    }

    int put(int i, int v) {
        return !isSample(i) || v < 0 || v > 255 ? BAD : trace.set(i, v);
    }

    // ---- the run

    private boolean high(int w, int i) {
        return (trace.get(i) / (1 << w)) % 2 == 1;
    }

    private boolean rises(int w, int i) {
        return i > 0 && high(w, i) && !high(w, i - 1);
    }

    private boolean falls(int w, int i) {
        return i > 0 && !high(w, i) && high(w, i - 1);
    }

    private boolean changes(int w, int i) {
        return rises(w, i) || falls(w, i);
    }

    private boolean so(List<Term> cond, int i, int ahead) {
        for (Term t : cond) {
            boolean so = switch (t.kind) {
                case 0 -> high(t.number, i);
                case 1 -> !high(t.number, i);
                case 2 -> rises(t.number, i);
                case 3 -> falls(t.number, i);
                case 4 -> trace.get(i) == t.number;
                case 5 -> trace.get(i) != t.number;
                default -> ahead >= t.number;
            };
            if (!so) {
                return false;
            }
        }
        return true;
    }

    /** The state behind each sample; its last entry is how often a state was entered. */
    private List<Integer> follow() {
        List<Integer> behind = new ArrayList<>();
        int state = 0;
        int since = 0;
        int entered = 0;
        Map<Integer, Integer> come = new HashMap<>();
        for (int i = 0; i < trace.size(); i++) {
            if (state != 8) {
                int to = -1;
                List<Branch> branches = program.states.get(state);
                for (int b = 0; b < branches.size() && to < 0; b++) {
                    if (so(branches.get(b).cond, i, i - since)) {
                        if (come.merge(b, 1, Integer::sum) == branches.get(b).times) {
                            to = branches.get(b).to;
                        }
                    }
                }
                if (to >= 0) {
                    state = to;
                    since = i + 1;
                    come.clear();
                    entered += to == 8 ? 0 : 1;
                }
            }
            behind.add(state);
        }
        behind.add(entered);
        return behind;
    }

    private int hit() {
        if (program.states.isEmpty()) {
            return NONE;
        }
        int hit = follow().subList(0, trace.size()).indexOf(8);
        return hit < 0 ? NONE : hit;
    }

    int run(int what) {
        if (what < 0 || what > 3) {
            return BAD;
        }
        if (program.states.isEmpty()) {
            return STATE;
        }
        List<Integer> behind = follow();
        return switch (what) {
            case 0 -> hit();
            case 1 -> trace.isEmpty() ? 0 : behind.get(trace.size() - 1);
            case 2 -> behind.get(trace.size());
            default -> hit() < 0 ? trace.size() : hit() + 1;
        };
    }

    int state(int i) {
        return !isSample(i) ? BAD : program.states.isEmpty() ? STATE : follow().get(i);
    }

    int stored(int what) {
        boolean one = what >= 10 && what <= 409;
        if (!one && (what < 0 || what > 2)) {
            return BAD;
        }
        if (hit() < 0) {
            return NONE;
        }
        List<Integer> stored = new ArrayList<>();
        for (int n = 0; n < program.depth; n++) {
            int i = hit() - program.ahead + n;
            if (isSample(i) && (program.keep == null || so(program.keep, i, i))) {
                stored.add(i);
            }
        }
        if (one) {
            return what - 10 < stored.size() ? stored.get(what - 10) : BAD;
        }
        if (what == 0) {
            return stored.size();
        }
        return stored.isEmpty() ? NONE : stored.get(what == 1 ? 0 : stored.size() - 1);
    }

    int next(int i) {
        if (!isSample(i)) {
            return BAD;
        }
        for (int j = i; j < trace.size(); j++) {
            if (program.keep == null || so(program.keep, j, j)) {
                return j;
            }
        }
        return NONE;
    }

    // ---- pulses

    private static boolean noWire(int w) {
        return w < 0 || w > 7;
    }

    private List<Integer> turns(int w, boolean fall) {
        List<Integer> turns = new ArrayList<>();
        for (int i = 0; i < trace.size(); i++) {
            if (fall ? falls(w, i) : rises(w, i)) {
                turns.add(i);
            }
        }
        return turns;
    }

    int edges(int w, boolean fall) {
        return noWire(w) ? BAD : turns(w, fall).size();
    }

    int edge(int w, boolean fall, int i) {
        if (noWire(w) || i < 0) {
            return BAD;
        }
        List<Integer> turns = turns(w, fall);
        return i < turns.size() ? turns.get(i) : NONE;
    }

    private List<Pulse> pulses(int w) {
        List<Integer> all = new ArrayList<>(turns(w, false));
        all.addAll(turns(w, true));
        all.sort(null);
        List<Pulse> pulses = new ArrayList<>();
        for (int n = 1; n < all.size(); n++) {
            int begin = all.get(n - 1);
            pulses.add(new Pulse(begin, all.get(n) - begin, high(w, begin)));
        }
        return pulses;
    }

    int pulse(int w, int level, int what) {
        if (noWire(w) || level < 0 || level > 1 || what < 0 || what > 4) {
            return BAD;
        }
        List<Pulse> pulses = new ArrayList<>(pulses(w));
        pulses.removeIf(p -> p.high != (level == 1));
        if (what == 0) {
            return pulses.size();
        }
        if (pulses.isEmpty()) {
            return NONE;
        }
        int sign = what < 3 ? 1 : -1;
        pulses.sort((p, q) -> Integer.compare(sign * p.length, sign * q.length));
        return what % 2 == 1 ? pulses.get(0).length : pulses.get(0).begin;
    }

    int duty(int w, int what) {
        if (noWire(w) || what < 0 || what > 1) {
            return BAD;
        }
        List<Integer> rises = turns(w, false);
        if (rises.size() < 2) {
            return NONE;
        }
        int high = 0;
        int all = 0;
        for (int i = rises.get(0); i < rises.get(rises.size() - 1); i++) {
            high += high(w, i) ? 1 : 0;
            all++;
        }
        for (int d = 400; d > 1; d--) {
            if (high % d == 0 && all % d == 0) {
                high /= d;
                all /= d;
            }
        }
        return what == 0 ? high : all;
    }

    int shorter(int w, int n) {
        return noWire(w) || n < 1 || n > 400 ? BAD : (int) pulses(w).stream().filter(p -> p.length < n).count();
    }

    int smooth(int n) {
        if (n < 1 || n > 400) {
            return BAD;
        }
        List<Integer> was = new ArrayList<>(trace);
        for (int w = 0; w < 8; w++) {
            boolean again = true;
            while (again) {
                again = false;
                for (Pulse p : pulses(w)) {
                    if (p.length < n) {
                        for (int i = p.begin; i < p.begin + p.length; i++) {
                            trace.set(i, trace.get(i) + (p.high ? -1 : 1) * (1 << w));
                        }
                        again = true;
                        break;
                    }
                }
            }
        }
        int others = 0;
        for (int i = 0; i < was.size(); i++) {
            others += was.get(i).equals(trace.get(i)) ? 0 : 1;
        }
        return others;
    }

    // ---- one line by another

    private int ahead(int d, int i) {
        for (int j = i; j >= 0; j--) {
            if (changes(d, j)) {
                return i - j;
            }
        }
        return NONE;
    }

    private int behind(int d, int i) {
        for (int j = i + 1; j < trace.size(); j++) {
            if (changes(d, j)) {
                return j - i;
            }
        }
        return NONE;
    }

    int setup(int c, int d, int what) {
        if (noWire(c) || noWire(d) || what < 0 || what > 3) {
            return BAD;
        }
        TreeMap<Integer, Integer> rises = new TreeMap<>();
        for (int i : turns(c, false)) {
            rises.putIfAbsent(what < 2 ? ahead(d, i) : behind(d, i), i);
        }
        rises.remove(NONE);
        if (rises.isEmpty()) {
            return NONE;
        }
        return what % 2 == 0 ? rises.firstKey() : rises.firstEntry().getValue();
    }

    int tight(int c, int d, int a, int b) {
        if (noWire(c) || noWire(d) || a < 0 || a > 400 || b < 0 || b > 400) {
            return BAD;
        }
        int tight = 0;
        for (int i : turns(c, false)) {
            boolean near = ahead(d, i) != NONE && ahead(d, i) < a;
            tight += near || behind(d, i) != NONE && behind(d, i) < b ? 1 : 0;
        }
        return tight;
    }

    int bits(int c, int d, int s, int what) {
        if (noWire(c) || noWire(d) || noWire(s)) {
            return BAD;
        }
        String bits = "";
        int lost = 0;
        List<Integer> bytes = new ArrayList<>();
        for (int i = 0; i < trace.size(); i++) {
            if (high(s, i)) {
                lost += bits.length();
                bits = "";
            } else if (rises(c, i)) {
                bits += high(d, i) ? "1" : "0";
                if (bits.length() == 8) {
                    bytes.add(Integer.parseInt(bits, 2));
                    bits = "";
                }
            }
        }
        if (what >= 10) {
            return what - 10 < bytes.size() ? bytes.get(what - 10) : BAD;
        }
        return what == 0 ? bytes.size() : what == 1 ? lost : what == 2 ? bits.length() : BAD;
    }

    // ---- bytes of a wire

    private List<Integer> frames(int w, int l) {
        List<Integer> frames = new ArrayList<>();
        int i = 0;
        while (i < trace.size()) {
            if (!(falls(w, i) || i == 0 && !high(w, 0))) {
                i++;
                continue;
            }
            int stop = i + 9 * l + l / 2;
            if (stop >= trace.size()) {
                break;
            }
            int v = 0;
            for (int k = 7; k >= 0; k--) {
                v = 2 * v + (high(w, i + (k + 1) * l + l / 2) ? 1 : 0);
            }
            frames.add(high(w, stop) ? v : -5);
            i = stop + 1;
        }
        return frames;
    }

    private static int broken(List<Integer> frames) {
        return (int) frames.stream().filter(v -> v == -5).count();
    }

    int serial(int w, int l, int what) {
        if (noWire(w) || l < 2 || l > 50) {
            return BAD;
        }
        List<Integer> frames = frames(w, l);
        if (what >= 10) {
            return what - 10 < frames.size() ? frames.get(what - 10) : BAD;
        }
        return what == 0 ? frames.size() - broken(frames) : what == 1 ? broken(frames) : BAD;
    }

    int rate(int w, int what) {
        if (noWire(w) || what < 0 || what > 2) {
            return BAD;
        }
        List<int[]> rates = new ArrayList<>();
        for (int l = 2; l <= 50; l++) {
            List<Integer> frames = frames(w, l);
            rates.add(new int[] {l, frames.size() - broken(frames), broken(frames)});
        }
        rates.sort((p, q) -> p[1] != q[1] ? q[1] - p[1] : p[2] != q[2] ? p[2] - q[2] : p[0] - q[0]);
        return rates.get(0)[what];
    }

    // ---- another eye, another store

    private static int edgesOf(List<Integer> samples) {
        int edges = 0;
        for (int i = 1; i < samples.size(); i++) {
            for (int w = 0; w < 8; w++) {
                edges += (samples.get(i) >> w) % 2 != (samples.get(i - 1) >> w) % 2 ? 1 : 0;
            }
        }
        return edges;
    }

    int seen(int k, int f, int what) {
        if (k < 1 || k > 400 || f < 0 || f > k - 1 || what < 0 || what > 2) {
            return BAD;
        }
        List<Integer> seen = new ArrayList<>();
        for (int i = f; i < trace.size(); i += k) {
            seen.add(trace.get(i));
        }
        return what == 0 ? seen.size() : what == 1 ? edgesOf(seen) : edgesOf(trace) - edgesOf(seen);
    }

    int widest() {
        Set<Pulse> all = new HashSet<>();
        for (int w = 0; w < 8; w++) {
            all.addAll(pulses(w));
        }
        for (int k = 400; k > 1; k--) {
            if (seesAll(all, k)) {
                return k;
            }
        }
        return 1;
    }

    private boolean seesAll(Set<Pulse> pulses, int k) {
        for (int f = 0; f < k; f++) {
            for (Pulse p : pulses) {
                boolean seen = false;
                for (int i = f; i < p.begin + p.length && !seen; i += k) {
                    seen = i >= p.begin;
                }
                if (!seen) {
                    return false;
                }
            }
        }
        return true;
    }

    private static int runsOf(List<Integer> samples) {
        int runs = samples.isEmpty() ? 0 : 1;
        for (int i = 1; i < samples.size(); i++) {
            runs += samples.get(i).equals(samples.get(i - 1)) ? 0 : 1;
        }
        return runs;
    }

    int runs() {
        return runsOf(trace);
    }

    int fills(int m, int i) {
        if (m < 1 || m > 400 || !isSample(i)) {
            return BAD;
        }
        int fits = 0;
        for (int n = 1; i + n <= trace.size(); n++) {
            fits = runsOf(trace.subList(i, i + n)) <= m ? n : fits;
        }
        return fits;
    }

    int values(int what) {
        if (what < 0 || what > 3) {
            return BAD;
        }
        TreeMap<Integer, Integer> often = new TreeMap<>();
        Set<List<Integer>> pairs = new HashSet<>();
        for (int i = 0; i < trace.size(); i++) {
            often.merge(trace.get(i), 1, Integer::sum);
            if (i > 0 && !trace.get(i).equals(trace.get(i - 1))) {
                pairs.add(List.of(trace.get(i - 1), trace.get(i)));
            }
        }
        int most = often.values().stream().mapToInt(n -> n).max().orElse(0);
        return switch (what) {
            case 0 -> often.size();
            case 1 -> pairs.size();
            case 2 -> often.keySet().stream().filter(v -> often.get(v) == most).findFirst().orElse(NONE);
            default -> most;
        };
    }

    // ---- images, sheets

    int keep(int k) {
        if (k < 0 || k > 1) {
            return BAD;
        }
        List<Integer> before = images.set(k, new ArrayList<>(trace));
        return before == null ? NONE : before.size();
    }

    int back(int k) {
        if (k < 0 || k > 1) {
            return BAD;
        }
        if (images.get(k) == null) {
            return STATE;
        }
        trace = new ArrayList<>(images.get(k));
        return trace.size();
    }

    private int laid(List<Integer> image, int shift) {
        int unlike = 0;
        for (int j = -900; j < 900; j++) {
            boolean here = isSample(j - shift);
            boolean there = j >= 0 && j < image.size();
            if (here != there || here && !trace.get(j - shift).equals(image.get(j))) {
                unlike++;
            }
        }
        return unlike;
    }

    int unlike(int k, int shift) {
        if (k < 0 || k > 1 || shift < -400 || shift > 400) {
            return BAD;
        }
        return images.get(k) == null ? STATE : laid(images.get(k), shift);
    }

    int shift(int k, int what) {
        if (k < 0 || k > 1 || what < 0 || what > 1) {
            return BAD;
        }
        if (images.get(k) == null) {
            return STATE;
        }
        List<int[]> laid = new ArrayList<>();
        for (int s = -40; s <= 40; s++) {
            laid.add(new int[] {s, laid(images.get(k), s)});
        }
        laid.sort((p, q) -> p[1] != q[1] ? p[1] - q[1]
                : Math.abs(p[0]) != Math.abs(q[0]) ? Math.abs(p[0]) - Math.abs(q[0]) : p[0] - q[0]);
        return laid.get(0)[what];
    }

    int sheet(int k, int lane, int n) {
        if (k < 0 || k > 3 || lane < 0 || lane > 2 || n > 40) {
            return BAD;
        }
        try {
            sheets[k] = lane == 0 ? new byte[n] : lane == 1 ? new short[n] : (Object) new int[n];
            return 1;
        } catch (NegativeArraySizeException e) {
            return -14;
        }
    }

    int lay(int k, int i, int v) {
        if (k < 0 || k > 3) {
            return BAD;
        }
        try {
            if (sheets[k] instanceof byte[] row) {
                row[i] = (byte) v;
            } else if (sheets[k] instanceof short[] row) {
                row[i] = (short) v;
            } else {
                ((int[]) sheets[k])[i] = v;
            }
            return 1;
        } catch (NullPointerException e) {
            return -11;
        } catch (ArrayIndexOutOfBoundsException e) {
            return -12;
        }
    }

    /** Here the machine is left to find the faults. */
    private static int cell(Object sheet, int lane, int i) {
        return lane == 0 ? ((byte[]) sheet)[i] : lane == 1 ? ((short[]) sheet)[i] : ((int[]) sheet)[i];
    }

    int read(int k, int lane, int f, int n) {
        if (k < 0 || k > 3 || lane < 0 || lane > 2 || n < 0 || n > 20) {
            return BAD;
        }
        List<Integer> was = new ArrayList<>(trace);
        int found = 0;
        int came = 0;
        try {
            for (int i = 0; i < n; i++) {
                int many = cell(sheets[k], lane, f + 2 * i);
                int v = cell(sheets[k], lane, f + 2 * i + 1);
                int answer = see(many, v);
                if (answer < 0) {
                    trace = was;
                    return answer == BAD ? -20 - i : FULL;
                }
                came++;
            }
        } catch (NullPointerException e) {
            found = 1;
        } catch (ArrayIndexOutOfBoundsException e) {
            found = 2;
        } catch (ClassCastException e) {
            found = 3;
        }
        torn = found;
        return came;
    }

    int torn() {
        return torn;
    }

    int count(int what) {
        return switch (what) {
            case 0 -> trace.size();
            case 1 -> (int) images.stream().filter(i -> i != null).count();
            case 2 -> tape.length();
            case 3 -> sheets[0] == null ? NONE : java.lang.reflect.Array.getLength(sheets[0]);
            default -> BAD;
        };
    }
}
