import java.util.Arrays;

/** Eight wires watched: see README.md for how it is used and DOC.md for what it promises. */
public final class EightWires {
    public static final int BAD = -1, STATE = -2, FULL = -3, NONE = -4;

    private static final int WIRES = 8;
    private static final int MOST_SAMPLES = 400;
    private static final int MOST_BYTES = 400;
    private static final int HIGHEST_SAMPLE = 255;
    private static final int HIT = 8;
    private static final int FAR_SHIFT = 40;
    private static final int SLOWEST_RATE = 50;
    private static final int FASTEST_RATE = 2;
    private static final int MOST_CELLS = 40;
    private static final int MOST_READ = 20;

    private static final int NULL_FAULT = 1;
    private static final int INDEX_FAULT = 2;
    private static final int CAST_FAULT = 3;
    private static final int SIZE_FAULT = 4;

    private final Reader reader = new Reader();
    private final Trace trace = new Trace();
    private final Trace before = new Trace();
    private final Trace[] images = {new Trace(), new Trace()};
    private final Sheet[] sheets = {new Sheet(), new Sheet(), new Sheet(), new Sheet()};
    private final Watch watch = new Watch();
    private final Pulses pulses = new Pulses();
    private final Gaps gaps = new Gaps();
    private final Bytes bytes = new Bytes();
    private final Census census = new Census();
    private Rules told = new Rules();
    private int textFault;
    private int readFault;

    public EightWires() {
    }

    // ---- the text

    public int feed(long v) {
        Tape tape = reader.tape;
        if (tape.size + 8 > MOST_BYTES) {
            return FULL;
        }
        tape.append(v);
        return tape.size;
    }

    public int end(int n) {
        Tape tape = reader.tape;
        if (!within(n, 0, tape.size)) {
            return BAD;
        }
        int had = tape.size;
        tape.size = n;
        return had;
    }

    public int text() {
        Tape tape = reader.tape;
        tape.split();
        reader.readAll();
        tape.size = 0;
        textFault = reader.fault;
        if (reader.fault != 0) {
            return -10 - reader.place;
        }
        told = reader.exchange(told);
        return reader.lines;
    }

    public int fault() {
        return textFault;
    }

    public int rule(int what) {
        switch (what) {
            case 0:
                return told.states;
            case 1:
                return told.depth;
            case 2:
                return told.ahead;
            case 3:
                return told.termCount(Rules.KEEP);
            default:
                return within(what, 10, 9 + told.states) ? told.branchCount(what - 10) : BAD;
        }
    }

    public int branch(int s, int b, int what) {
        int c = told.branchPlace(s, b);
        if (c < 0) {
            return BAD;
        }
        int terms = told.termCount(c);
        if (within(what, 10, 9 + terms)) {
            return told.termKind(c, what - 10);
        }
        if (within(what, 20, 19 + terms)) {
            return told.termNumber(c, what - 20);
        }
        switch (what) {
            case 0:
                return terms;
            case 1:
                return told.timesOf(c);
            case 2:
                return told.targetOf(c);
            default:
                return BAD;
        }
    }

    // ---- samples

    public int see(int n, int v) {
        int refusal = refusalOf(n, v, trace.size);
        if (refusal != 0) {
            return refusal;
        }
        trace.append(n, v);
        return trace.size;
    }

    public int cut(int n) {
        if (!within(n, 0, trace.size)) {
            return BAD;
        }
        int had = trace.size;
        trace.size = n;
        return had;
    }

    public int at(int i) {
        return trace.has(i) ? trace.sample(i) : BAD;
    }

    public int put(int i, int v) {
        if (!trace.has(i) || !within(v, 0, HIGHEST_SAMPLE)) {
            return BAD;
        }
        int was = trace.sample(i);
        trace.replace(i, v);
        return was;
    }

    // ---- the run

    public int run(int what) {
        if (!within(what, 0, 3)) {
            return BAD;
        }
        if (told.states == 0) {
            return STATE;
        }
        watch.follow(told, trace, trace.size);
        switch (what) {
            case 0:
                return watch.hit;
            case 1:
                return watch.state;
            case 2:
                return watch.entered;
            default:
                return watch.looked;
        }
    }

    public int state(int i) {
        if (!trace.has(i)) {
            return BAD;
        }
        if (told.states == 0) {
            return STATE;
        }
        watch.follow(told, trace, i + 1);
        return watch.state;
    }

    public int stored(int what) {
        if (!within(what, 0, 2) && !within(what, 10, 9 + MOST_SAMPLES)) {
            return BAD;
        }
        watch.follow(told, trace, trace.size);
        if (watch.hit < 0) {
            return NONE;
        }
        int first = NONE;
        int last = NONE;
        int stored = 0;
        int start = watch.hit - told.ahead;
        int stop = Math.min(start + told.depth, trace.size);
        for (int i = Math.max(start, 0); i < stop; i++) {
            if (!told.holds(Rules.KEEP, trace, i, i)) {
                continue;
            }
            if (stored == what - 10) {
                return i;
            }
            first = stored == 0 ? i : first;
            last = i;
            stored++;
        }
        switch (what) {
            case 0:
                return stored;
            case 1:
                return first;
            case 2:
                return last;
            default:
                return BAD;
        }
    }

    public int next(int i) {
        if (!trace.has(i)) {
            return BAD;
        }
        for (int j = i; j < trace.size; j++) {
            if (told.holds(Rules.KEEP, trace, j, j)) {
                return j;
            }
        }
        return NONE;
    }

    // ---- pulses

    public int edges(int w, boolean fall) {
        if (!isWire(w)) {
            return BAD;
        }
        int found = 0;
        for (int i = 1; i < trace.size; i++) {
            found += turns(w, fall, i) ? 1 : 0;
        }
        return found;
    }

    public int edge(int w, boolean fall, int i) {
        if (!isWire(w) || i < 0) {
            return BAD;
        }
        int found = 0;
        for (int j = 1; j < trace.size; j++) {
            if (!turns(w, fall, j)) {
                continue;
            }
            if (found == i) {
                return j;
            }
            found++;
        }
        return NONE;
    }

    public int pulse(int w, int level, int what) {
        if (!isWire(w) || !within(level, 0, 1) || !within(what, 0, 4)) {
            return BAD;
        }
        pulses.measure(trace, w, level, 0);
        switch (what) {
            case 0:
                return pulses.found;
            case 1:
                return pulses.shortest;
            case 2:
                return pulses.shortestAt;
            case 3:
                return pulses.longest;
            default:
                return pulses.longestAt;
        }
    }

    public int duty(int w, int what) {
        if (!isWire(w) || !within(what, 0, 1)) {
            return BAD;
        }
        int first = firstRise(w);
        int last = lastRise(w);
        if (first < 0 || first == last) {
            return NONE;
        }
        int high = 0;
        for (int i = first; i < last; i++) {
            high += trace.high(w, i) ? 1 : 0;
        }
        int shared = greatestDivisor(high, last - first);
        if (shared == 0) {
            return NONE;
        }
        return (what == 0 ? high : last - first) / shared;
    }

    public int shorter(int w, int n) {
        if (!isWire(w) || !within(n, 1, MOST_SAMPLES)) {
            return BAD;
        }
        pulses.measure(trace, w, Pulses.EITHER, n);
        return pulses.tooShort;
    }

    public int smooth(int n) {
        if (!within(n, 1, MOST_SAMPLES)) {
            return BAD;
        }
        before.copy(trace);
        for (int w = 0; w < WIRES; w++) {
            trace.smoothWire(w, n);
        }
        int others = 0;
        for (int i = 0; i < trace.size; i++) {
            others += trace.sample(i) != before.sample(i) ? 1 : 0;
        }
        return others;
    }

    // ---- one line by another

    public int setup(int c, int d, int what) {
        if (!isWire(c) || !isWire(d) || !within(what, 0, 3)) {
            return BAD;
        }
        gaps.measure(trace, c, d, 0, 0);
        switch (what) {
            case 0:
                return gaps.leastAhead;
            case 1:
                return gaps.leastAheadAt;
            case 2:
                return gaps.leastBehind;
            default:
                return gaps.leastBehindAt;
        }
    }

    public int tight(int c, int d, int a, int b) {
        if (!isWire(c) || !isWire(d) || !within(a, 0, MOST_SAMPLES) || !within(b, 0, MOST_SAMPLES)) {
            return BAD;
        }
        gaps.measure(trace, c, d, a, b);
        return gaps.tooNear;
    }

    public int bits(int c, int d, int s, int what) {
        if (!isWire(c) || !isWire(d) || !isWire(s)) {
            return BAD;
        }
        bytes.gather(trace, c, d, s);
        switch (what) {
            case 0:
                return bytes.whole;
            case 1:
                return bytes.lost;
            case 2:
                return bytes.pending;
            default:
                return what < 10 ? BAD : bytes.value(what - 10);
        }
    }

    // ---- bytes of a wire

    public int serial(int w, int l, int what) {
        if (!isWire(w) || !within(l, FASTEST_RATE, SLOWEST_RATE)) {
            return BAD;
        }
        bytes.listen(trace, w, l);
        switch (what) {
            case 0:
                return bytes.whole;
            case 1:
                return bytes.broken;
            default:
                return what < 10 ? BAD : bytes.value(what - 10);
        }
    }

    public int rate(int w, int what) {
        if (!isWire(w) || !within(what, 0, 2)) {
            return BAD;
        }
        int best = 0;
        int whole = 0;
        int broken = 0;
        for (int l = FASTEST_RATE; l <= SLOWEST_RATE; l++) {
            bytes.listen(trace, w, l);
            if (best == 0 || bytes.whole > whole || bytes.whole == whole && bytes.broken < broken) {
                best = l;
                whole = bytes.whole;
                broken = bytes.broken;
            }
        }
        switch (what) {
            case 0:
                return best;
            case 1:
                return whole;
            default:
                return broken;
        }
    }

    // ---- another eye, another store

    public int seen(int k, int f, int what) {
        if (!within(k, 1, MOST_SAMPLES) || !within(f, 0, k - 1) || !within(what, 0, 2)) {
            return BAD;
        }
        switch (what) {
            case 0:
                return f < trace.size ? (trace.size - f + k - 1) / k : 0;
            case 1:
                return trace.edgesSeen(k, f);
            default:
                return trace.edgesSeen(1, 0) - trace.edgesSeen(k, f);
        }
    }

    public int widest() {
        // A pulse is seen from every start if, and only if, it is at least as long as the step.
        int least = MOST_SAMPLES;
        for (int w = 0; w < WIRES; w++) {
            pulses.measure(trace, w, Pulses.EITHER, 0);
            if (pulses.found > 0) {
                least = Math.min(least, pulses.shortest);
            }
        }
        return least;
    }

    public int runs() {
        int found = 0;
        for (int i = 0; i < trace.size; i++) {
            found += trace.beginsRun(i) ? 1 : 0;
        }
        return found;
    }

    public int fills(int m, int i) {
        if (!within(m, 1, MOST_SAMPLES) || !trace.has(i)) {
            return BAD;
        }
        int begun = 1;
        for (int j = i + 1; j < trace.size; j++) {
            begun += trace.beginsRun(j) ? 1 : 0;
            if (begun > m) {
                return j - i;
            }
        }
        return trace.size - i;
    }

    public int values(int what) {
        if (!within(what, 0, 3)) {
            return BAD;
        }
        if (what == 1) {
            return census.unlikePairs(trace);
        }
        census.tally(trace);
        switch (what) {
            case 0:
                return census.unlikeValues;
            case 2:
                return census.commonest;
            default:
                return census.howOften;
        }
    }

    // ---- images, sheets

    public int keep(int k) {
        Trace image = imageOf(k);
        if (image == null) {
            return BAD;
        }
        int had = image.kept ? image.size : NONE;
        image.copy(trace);
        image.kept = true;
        return had;
    }

    public int back(int k) {
        Trace image = imageOf(k);
        if (image == null) {
            return BAD;
        }
        if (!image.kept) {
            return STATE;
        }
        trace.copy(image);
        return trace.size;
    }

    public int unlike(int k, int shift) {
        Trace image = imageOf(k);
        if (image == null || !within(shift, -MOST_SAMPLES, MOST_SAMPLES)) {
            return BAD;
        }
        return image.kept ? trace.unlikeLaid(image, shift) : STATE;
    }

    public int shift(int k, int what) {
        Trace image = imageOf(k);
        if (image == null || !within(what, 0, 1)) {
            return BAD;
        }
        if (!image.kept) {
            return STATE;
        }
        int best = 0;
        int fewest = trace.unlikeLaid(image, 0);
        for (int far = 1; far <= FAR_SHIFT; far++) {
            // Nearest to 0 first and the one below ahead of the one above: the first of equals is due.
            int below = trace.unlikeLaid(image, -far);
            if (below < fewest) {
                best = -far;
                fewest = below;
            }
            int above = trace.unlikeLaid(image, far);
            if (above < fewest) {
                best = far;
                fewest = above;
            }
        }
        return what == 0 ? best : fewest;
    }

    public int sheet(int k, int lane, int n) {
        Sheet sheet = sheetOf(k);
        if (sheet == null || !isLane(lane) || n > MOST_CELLS) {
            return BAD;
        }
        if (n < 0) {
            return -10 - SIZE_FAULT;
        }
        sheet.renew(lane, n);
        return 1;
    }

    public int lay(int k, int i, int v) {
        Sheet sheet = sheetOf(k);
        if (sheet == null) {
            return BAD;
        }
        if (sheet.isNothing()) {
            return -10 - NULL_FAULT;
        }
        if (!sheet.has(i)) {
            return -10 - INDEX_FAULT;
        }
        sheet.write(i, v);
        return 1;
    }

    public int read(int k, int lane, int f, int n) {
        Sheet sheet = sheetOf(k);
        if (sheet == null || !isLane(lane) || !within(n, 0, MOST_READ)) {
            return BAD;
        }
        int found = n == 0 ? 0 : sheet.faultAs(lane);
        int whole = found == 0 ? sheet.wholePairs(f, n) : 0;
        if (found == 0 && whole < n) {
            found = INDEX_FAULT;
        }
        int refusal = firstRefusal(sheet, f, whole);
        if (refusal != 0) {
            return refusal;
        }
        for (int i = 0; i < whole; i++) {
            trace.append(sheet.cell(f + 2 * i), sheet.cell(f + 2 * i + 1));
        }
        readFault = found;
        return whole;
    }

    public int torn() {
        return readFault;
    }

    public int count(int what) {
        switch (what) {
            case 0:
                return trace.size;
            case 1:
                return imagesKept();
            case 2:
                return reader.tape.size;
            case 3:
                return cellsOfFirst();
            default:
                return BAD;
        }
    }

    // ---- what several calls share

    private static boolean within(int v, int low, int high) {
        return v >= low && v <= high;
    }

    private static boolean isWire(int w) {
        return within(w, 0, WIRES - 1);
    }

    private static boolean isLane(int lane) {
        return within(lane, 0, 2);
    }

    private static int greatestDivisor(int a, int b) {
        int x = a;
        int y = b;
        // Each step halves the greater one at least every second time: 64 is more than an int needs.
        for (int n = 0; n < 64 && y != 0; n++) {
            int rest = x % y;
            x = y;
            y = rest;
        }
        return x;
    }

    /** What see() refuses where there are size samples; 0: nothing. */
    private static int refusalOf(int n, int v, int size) {
        if (!within(n, 1, MOST_SAMPLES) || !within(v, 0, HIGHEST_SAMPLE)) {
            return BAD;
        }
        return size + n > MOST_SAMPLES ? FULL : 0;
    }

    /** What read() answers if one of the whole pairs would be refused; 0: none would be. */
    private int firstRefusal(Sheet sheet, int f, int whole) {
        int size = trace.size;
        for (int i = 0; i < whole; i++) {
            int n = sheet.cell(f + 2 * i);
            int refusal = refusalOf(n, sheet.cell(f + 2 * i + 1), size);
            if (refusal == BAD) {
                return -20 - i;
            }
            if (refusal != 0) {
                return refusal;
            }
            size += n;
        }
        return 0;
    }

    private boolean turns(int w, boolean fall, int i) {
        return fall ? trace.falls(w, i) : trace.rises(w, i);
    }

    private int firstRise(int w) {
        for (int i = 1; i < trace.size; i++) {
            if (trace.rises(w, i)) {
                return i;
            }
        }
        return NONE;
    }

    private int lastRise(int w) {
        for (int i = trace.size - 1; i > 0; i--) {
            if (trace.rises(w, i)) {
                return i;
            }
        }
        return NONE;
    }

    private Trace imageOf(int k) {
        return within(k, 0, images.length - 1) ? images[k] : null;
    }

    private Sheet sheetOf(int k) {
        return within(k, 0, sheets.length - 1) ? sheets[k] : null;
    }

    private int imagesKept() {
        int found = 0;
        for (int k = 0; k < images.length; k++) {
            Trace image = images[k];
            found += image != null && image.kept ? 1 : 0;
        }
        return found;
    }

    private int cellsOfFirst() {
        Sheet sheet = sheetOf(0);
        return sheet == null || sheet.isNothing() ? NONE : sheet.size;
    }

    /** A row of samples: the trace, an image, or what the trace was before it was smoothed. */
    private static final class Trace {
        private final int[] samples = new int[MOST_SAMPLES];
        private int size;
        private boolean kept;

        boolean has(int i) {
            return i >= 0 && i < size;
        }

        int sample(int i) {
            return has(i) ? samples[i] : 0;
        }

        void replace(int i, int v) {
            if (has(i)) {
                samples[i] = v;
            }
        }

        void append(int n, int v) {
            int stop = Math.min(size + n, MOST_SAMPLES);
            for (int i = size; i < stop; i++) {
                samples[i] = v;
            }
            size = stop;
        }

        void copy(Trace other) {
            size = other.size;
            for (int i = 0; i < size; i++) {
                samples[i] = other.samples[i];
            }
        }

        boolean high(int w, int i) {
            return i >= 0 && i < size && (samples[i] >> w & 1) != 0;
        }

        boolean changes(int w, int i) {
            return i > 0 && i < size && ((samples[i] ^ samples[i - 1]) >> w & 1) != 0;
        }

        boolean rises(int w, int i) {
            return i > 0 && i < size && ((samples[i] & ~samples[i - 1]) >> w & 1) != 0;
        }

        boolean falls(int w, int i) {
            return i > 0 && i < size && ((~samples[i] & samples[i - 1]) >> w & 1) != 0;
        }

        boolean beginsRun(int i) {
            return i == 0 || sample(i) != sample(i - 1);
        }

        int edgesSeen(int k, int f) {
            int found = 0;
            for (int i = f + k; k > 0 && i < size; i += k) {
                found += Integer.bitCount(sample(i) ^ sample(i - k));
            }
            return found;
        }

        int unlikeLaid(Trace image, int shift) {
            int both = 0;
            int unlike = 0;
            for (int i = 0; i < size; i++) {
                if (!image.has(i + shift)) {
                    continue;
                }
                both++;
                unlike += sample(i) != image.sample(i + shift) ? 1 : 0;
            }
            return unlike + (size - both) + (image.size - both);
        }

        void smoothWire(int w, int n) {
            int begin = 0;
            for (int i = 1; i < size; i++) {
                if (!changes(w, i)) {
                    continue;
                }
                if (begin > 0 && i - begin < n) {
                    flip(w, begin, i);
                    // What it is one with now is long enough, or begins the trace: no pulse to smooth.
                    begin = 0;
                } else {
                    begin = i;
                }
            }
        }

        private void flip(int w, int from, int to) {
            for (int i = from; i < to; i++) {
                replace(i, sample(i) ^ 1 << w);
            }
        }
    }

    /** The bytes that are fed for a text, and the tokens that they make. */
    private static final class Tape {
        private static final int END = 0;
        private static final int WRONG = 1;
        private static final int NUMBER = 2;
        private static final int OTHER_NAME = 3;
        private static final int STATE_NAME = 4;
        private static final int KEEP_NAME = 5;
        private static final int DEPTH_NAME = 6;
        private static final int AHEAD_NAME = 7;
        private static final int TIMES_NAME = 8;
        private static final int GO_NAME = 9;
        private static final int HIT_NAME = 10;
        // The name of a term is this and what the term is.
        private static final int TERM_NAMES = 20;
        private static final int MOST_FIGURES = 3;

        private final int[] places = new int[MOST_BYTES];
        private int size;
        // A sign is its own token; the end is one more.
        private final int[] tokens = new int[MOST_BYTES + 1];
        private final int[] starts = new int[MOST_BYTES + 1];
        private final int[] numbers = new int[MOST_BYTES + 1];
        private int tokenCount;

        void append(long v) {
            for (int shift = 56; shift >= 0 && size < places.length; shift -= 8) {
                places[size] = (int) (v >> shift) & 255;
                size++;
            }
        }

        /** Makes the tokens, up to the first thing that is none: nothing behind it can be read. */
        void split() {
            tokenCount = 0;
            int i = behindAll(' ', ' ', 0);
            for (int n = 0; n < MOST_BYTES && i < size; n++) {
                int behind = behindToken(i);
                int token = tokenBetween(i, behind);
                addToken(token, i, token == NUMBER ? valueBetween(i, behind) : 0);
                if (token == WRONG) {
                    return;
                }
                i = behindAll(' ', ' ', behind);
            }
            addToken(END, size, 0);
        }

        private void addToken(int token, int start, int number) {
            if (tokenCount < tokens.length) {
                tokens[tokenCount] = token;
                starts[tokenCount] = start;
                numbers[tokenCount] = number;
                tokenCount++;
            }
        }

        private int byteAt(int i) {
            return i >= 0 && i < size ? places[i] : 0;
        }

        private int behindAll(int low, int high, int from) {
            for (int i = from; i < size; i++) {
                if (byteAt(i) < low || byteAt(i) > high) {
                    return i;
                }
            }
            return size;
        }

        private int behindToken(int i) {
            // At most one of these kinds begins here; a sign is one byte long.
            return Math.max(i + 1, Math.max(behindAll('a', 'z', i), behindAll('0', '9', i)));
        }

        private int tokenBetween(int from, int to) {
            int first = byteAt(from);
            if (first >= 'a' && first <= 'z') {
                return nameBetween(from, to);
            }
            if (first >= '0' && first <= '9') {
                return to - from > MOST_FIGURES ? WRONG : NUMBER;
            }
            return first == ';' || first == '|' || first == '&' ? first : WRONG;
        }

        private int nameBetween(int from, int to) {
            if (spells("state", from, to)) {
                return STATE_NAME;
            }
            if (spells("keep", from, to)) {
                return KEEP_NAME;
            }
            if (spells("depth", from, to)) {
                return DEPTH_NAME;
            }
            if (spells("ahead", from, to)) {
                return AHEAD_NAME;
            }
            if (spells("times", from, to)) {
                return TIMES_NAME;
            }
            if (spells("go", from, to)) {
                return GO_NAME;
            }
            if (spells("hit", from, to)) {
                return HIT_NAME;
            }
            int term = termBetween(from, to);
            return term < 0 ? OTHER_NAME : TERM_NAMES + term;
        }

        private int termBetween(int from, int to) {
            if (spells("high", from, to)) {
                return Rules.HIGH;
            }
            if (spells("low", from, to)) {
                return Rules.LOW;
            }
            if (spells("rise", from, to)) {
                return Rules.RISE;
            }
            if (spells("fall", from, to)) {
                return Rules.FALL;
            }
            if (spells("is", from, to)) {
                return Rules.IS;
            }
            if (spells("not", from, to)) {
                return Rules.NOT;
            }
            return spells("after", from, to) ? Rules.AFTER : -1;
        }

        private boolean spells(String name, int from, int to) {
            if (to - from != name.length()) {
                return false;
            }
            for (int i = 0; i < name.length(); i++) {
                if (byteAt(from + i) != name.charAt(i)) {
                    return false;
                }
            }
            return true;
        }

        private int valueBetween(int from, int to) {
            int value = 0;
            for (int i = from; i < to; i++) {
                value = value * 10 + byteAt(i) - '0';
            }
            return value;
        }
    }

    /** What a text tells: states with their branches, what is kept, depth and ahead. */
    private static final class Rules {
        private static final int MOST_STATES = 8;
        private static final int MOST_BRANCHES = 3;
        private static final int MOST_TERMS = 3;
        private static final int KEEP = MOST_STATES * MOST_BRANCHES;
        private static final int UNTOLD_DEPTH = 100;

        private static final int HIGH = 0;
        private static final int LOW = 1;
        private static final int RISE = 2;
        private static final int FALL = 3;
        private static final int IS = 4;
        private static final int NOT = 5;
        private static final int AFTER = 6;

        private final int[] branchCounts = new int[MOST_STATES];
        private final int[] times = new int[KEEP];
        private final int[] targets = new int[KEEP];
        // Condition c is that of branch c; the one of keep stands behind them all.
        private final int[] termCounts = new int[KEEP + 1];
        private final int[] termKinds = new int[(KEEP + 1) * MOST_TERMS];
        private final int[] termNumbers = new int[(KEEP + 1) * MOST_TERMS];
        private int states;
        private int depth = UNTOLD_DEPTH;
        private int ahead;

        void forget() {
            states = 0;
            depth = UNTOLD_DEPTH;
            ahead = 0;
            Arrays.fill(branchCounts, 0);
            Arrays.fill(termCounts, 0);
        }

        int branchCount(int s) {
            return s >= 0 && s < states && s < MOST_STATES ? branchCounts[s] : 0;
        }

        /** The number of a branch among all; below 0: there is no such one. */
        int branchPlace(int s, int b) {
            return b >= 0 && b < branchCount(s) ? s * MOST_BRANCHES + b : -1;
        }

        int timesOf(int c) {
            return c >= 0 && c < KEEP ? times[c] : 0;
        }

        int targetOf(int c) {
            return c >= 0 && c < KEEP ? targets[c] : 0;
        }

        int termCount(int c) {
            return c >= 0 && c <= KEEP ? termCounts[c] : 0;
        }

        int termKind(int c, int i) {
            return i >= 0 && i < termCount(c) ? termKinds[c * MOST_TERMS + i] : 0;
        }

        int termNumber(int c, int i) {
            return i >= 0 && i < termCount(c) ? termNumbers[c * MOST_TERMS + i] : 0;
        }

        void addBranch(int s, int b, int often, int target) {
            if (s >= 0 && s < MOST_STATES && b >= 0 && b < MOST_BRANCHES) {
                times[s * MOST_BRANCHES + b] = often;
                targets[s * MOST_BRANCHES + b] = target;
                branchCounts[s] = b + 1;
            }
        }

        void addTerm(int c, int kind, int number) {
            int i = termCount(c);
            if (c >= 0 && c <= KEEP && i < MOST_TERMS) {
                termKinds[c * MOST_TERMS + i] = kind;
                termNumbers[c * MOST_TERMS + i] = number;
                termCounts[c] = i + 1;
            }
        }

        boolean leadsNowhere() {
            for (int s = 0; s < states; s++) {
                for (int b = 0; b < branchCount(s); b++) {
                    int target = targetOf(branchPlace(s, b));
                    if (target != HIT && target >= states) {
                        return true;
                    }
                }
            }
            return false;
        }

        /** Whether a condition is so in sample i, with so many samples looked at ahead of it. */
        boolean holds(int c, Trace trace, int i, int looked) {
            for (int n = 0; n < termCount(c); n++) {
                if (!termHolds(termKind(c, n), termNumber(c, n), trace, i, looked)) {
                    return false;
                }
            }
            return true;
        }

        private static boolean termHolds(int kind, int number, Trace trace, int i, int looked) {
            switch (kind) {
                case HIGH:
                    return trace.high(number, i);
                case LOW:
                    return !trace.high(number, i);
                case RISE:
                    return trace.rises(number, i);
                case FALL:
                    return trace.falls(number, i);
                case IS:
                    return trace.sample(i) == number;
                case NOT:
                    return trace.sample(i) != number;
                default:
                    return looked >= number;
            }
        }
    }

    /** Reads the tokens of a text into rules; behind the first fault every token is refused. */
    private static final class Reader {
        private static final int NO_TOKEN = 1;
        private static final int NOT_HERE = 2;
        private static final int OUT_OF_BOUNDS = 3;
        private static final int TWICE = 4;
        private static final int TOO_MANY = 5;
        private static final int NOT_FITTING = 6;

        private final Tape tape = new Tape();
        // Not the told rules, so that a fault leaves those as they were.
        private Rules rules = new Rules();
        private int at;
        private int token;
        private int start;
        private int number;
        private boolean depthTold;
        private boolean aheadTold;
        private int fault;
        private int place;
        private int lines;

        void readAll() {
            begin();
            for (int n = 0; n < MOST_BYTES && fault == 0 && token != Tape.END; n++) {
                lines++;
                switch (token) {
                    case Tape.STATE_NAME:
                        readState();
                        break;
                    case Tape.KEEP_NAME:
                        readKeep();
                        break;
                    case Tape.DEPTH_NAME:
                        readDepth();
                        break;
                    case Tape.AHEAD_NAME:
                        readAhead();
                        break;
                    default:
                        refuse(NOT_HERE);
                        break;
                }
            }
            if (rules.leadsNowhere() || rules.ahead >= rules.depth) {
                refuse(NOT_FITTING);
            }
        }

        /** Gives what was read for rules that are told no more: none need be made for the next text. */
        Rules exchange(Rules old) {
            Rules latest = rules;
            rules = old;
            return latest;
        }

        private void begin() {
            rules.forget();
            depthTold = false;
            aheadTold = false;
            fault = 0;
            place = 0;
            lines = 0;
            at = -1;
            advance();
        }

        private void readState() {
            int s = rules.states;
            if (s >= Rules.MOST_STATES) {
                refuse(TOO_MANY);
                return;
            }
            rules.states = s + 1;
            for (int b = 0; b < Rules.MOST_BRANCHES; b++) {
                advance();
                readBranch(s, b);
                if (token != '|') {
                    take(';');
                    return;
                }
            }
            refuse(TOO_MANY);
        }

        private void readBranch(int s, int b) {
            readCondition(s * Rules.MOST_BRANCHES + b);
            int often = 1;
            if (token == Tape.TIMES_NAME) {
                advance();
                often = takeNumber(1, 99);
            }
            take(Tape.GO_NAME);
            int target = HIT;
            if (token == Tape.HIT_NAME) {
                advance();
            } else {
                target = takeNumber(0, Rules.MOST_STATES - 1);
            }
            rules.addBranch(s, b, often, target);
        }

        private void readKeep() {
            if (rules.termCount(Rules.KEEP) > 0) {
                refuse(TWICE);
                return;
            }
            advance();
            readCondition(Rules.KEEP);
            take(';');
        }

        private void readDepth() {
            if (depthTold) {
                refuse(TWICE);
                return;
            }
            depthTold = true;
            advance();
            rules.depth = takeNumber(1, MOST_SAMPLES);
            take(';');
        }

        private void readAhead() {
            if (aheadTold) {
                refuse(TWICE);
                return;
            }
            aheadTold = true;
            advance();
            rules.ahead = takeNumber(0, MOST_SAMPLES - 1);
            take(';');
        }

        private void readCondition(int c) {
            for (int n = 0; n < Rules.MOST_TERMS; n++) {
                if (n > 0) {
                    advance();
                }
                int term = token - Tape.TERM_NAMES;
                if (term < Rules.HIGH || term > Rules.AFTER) {
                    refuse(NOT_HERE);
                    return;
                }
                advance();
                rules.addTerm(c, term, takeNumber(term == Rules.AFTER ? 1 : 0, greatestOf(term)));
                if (token != '&') {
                    return;
                }
            }
            refuse(TOO_MANY);
        }

        private static int greatestOf(int term) {
            switch (term) {
                case Rules.IS:
                case Rules.NOT:
                    return HIGHEST_SAMPLE;
                case Rules.AFTER:
                    return 999;
                default:
                    return WIRES - 1;
            }
        }

        private void take(int wanted) {
            if (token == wanted) {
                advance();
            } else {
                refuse(NOT_HERE);
            }
        }

        private int takeNumber(int low, int high) {
            if (token != Tape.NUMBER) {
                refuse(NOT_HERE);
                return 0;
            }
            if (number < low || number > high) {
                refuse(OUT_OF_BOUNDS);
                return 0;
            }
            int taken = number;
            advance();
            return taken;
        }

        private void advance() {
            at++;
            if (fault == 0 && at < tape.tokenCount) {
                token = tape.tokens[at];
                start = tape.starts[at];
                number = tape.numbers[at];
            }
        }

        /** The token in hand is at fault; only the first fault is told. */
        private void refuse(int why) {
            if (fault == 0) {
                fault = token == Tape.WRONG ? NO_TOKEN : why;
                place = start;
            }
            token = Tape.WRONG;
        }
    }

    /** A run of the told states over the trace. */
    private static final class Watch {
        private final int[] come = new int[Rules.MOST_BRANCHES];
        private int hit;
        private int state;
        private int entered;
        private int looked;
        private int lookedSince;

        /** Looks at so many samples, or fewer if it hits. */
        void follow(Rules rules, Trace trace, int samples) {
            hit = NONE;
            entered = 0;
            looked = 0;
            enter(0);
            for (int i = 0; i < samples && hit < 0 && rules.states > 0; i++) {
                look(rules, trace, i);
                looked++;
            }
        }

        private void enter(int s) {
            state = s;
            lookedSince = 0;
            Arrays.fill(come, 0);
        }

        private void look(Rules rules, Trace trace, int i) {
            int branches = Math.min(rules.branchCount(state), come.length);
            for (int b = 0; b < branches; b++) {
                int c = rules.branchPlace(state, b);
                if (!rules.holds(c, trace, i, lookedSince)) {
                    continue;
                }
                come[b]++;
                if (come[b] == rules.timesOf(c)) {
                    leave(rules.targetOf(c), i);
                    return;
                }
            }
            lookedSince++;
        }

        private void leave(int target, int i) {
            if (target == HIT) {
                hit = i;
                state = HIT;
            } else {
                entered++;
                enter(target);
            }
        }
    }

    /** The pulses of a wire: how many, the shortest, the longest. */
    private static final class Pulses {
        private static final int EITHER = -1;

        private int found;
        private int shortest;
        private int shortestAt;
        private int longest;
        private int longestAt;
        private int tooShort;

        void measure(Trace trace, int w, int level, int n) {
            found = 0;
            tooShort = 0;
            shortest = NONE;
            shortestAt = NONE;
            longest = NONE;
            longestAt = NONE;
            int begin = 0;
            for (int i = 1; i < trace.size; i++) {
                if (!trace.changes(w, i)) {
                    continue;
                }
                // What begins the trace has no level ahead of it: it is no pulse.
                if (begin > 0 && (level == EITHER || trace.high(w, begin) == (level == 1))) {
                    note(begin, i - begin, n);
                }
                begin = i;
            }
        }

        private void note(int begin, int length, int n) {
            if (found == 0 || length < shortest) {
                shortest = length;
                shortestAt = begin;
            }
            if (found == 0 || length > longest) {
                longest = length;
                longestAt = begin;
            }
            found++;
            tooShort += length < n ? 1 : 0;
        }
    }

    /** How near the changes of one wire are to the rises of another one. */
    private static final class Gaps {
        private int leastAhead;
        private int leastAheadAt;
        private int leastBehind;
        private int leastBehindAt;
        private int tooNear;

        void measure(Trace trace, int c, int d, int a, int b) {
            leastAhead = NONE;
            leastAheadAt = NONE;
            leastBehind = NONE;
            leastBehindAt = NONE;
            tooNear = 0;
            int last = NONE;
            int coming = 0;
            for (int i = 1; i < trace.size; i++) {
                last = trace.changes(d, i) ? i : last;
                coming = coming > i ? coming : firstChange(trace, d, i + 1);
                if (trace.rises(c, i)) {
                    int ahead = last < 0 ? NONE : i - last;
                    int behind = coming < trace.size ? coming - i : NONE;
                    note(i, ahead, behind);
                    tooNear += ahead >= 0 && ahead < a || behind >= 0 && behind < b ? 1 : 0;
                }
            }
        }

        private void note(int i, int ahead, int behind) {
            if (ahead >= 0 && (leastAhead < 0 || ahead < leastAhead)) {
                leastAhead = ahead;
                leastAheadAt = i;
            }
            if (behind >= 0 && (leastBehind < 0 || behind < leastBehind)) {
                leastBehind = behind;
                leastBehindAt = i;
            }
        }

        /** The first sample from one on in which a wire changes; how many there are, if it does not. */
        private static int firstChange(Trace trace, int d, int from) {
            for (int i = from; i < trace.size; i++) {
                if (trace.changes(d, i)) {
                    return i;
                }
            }
            return trace.size;
        }
    }

    /** Bytes read from one wire at a rate, or from two wires by edges. */
    private static final class Bytes {
        private static final int BROKEN = -5;

        // A byte takes 16 samples at least by edges, 20 at least at a rate.
        private final int[] row = new int[MOST_SAMPLES / 16];
        private int size;
        private int whole;
        private int broken;
        private int lost;
        private int pending;

        private void clear() {
            size = 0;
            whole = 0;
            broken = 0;
            lost = 0;
            pending = 0;
        }

        private void add(int v) {
            if (size < row.length) {
                row[size] = v;
                size++;
            }
        }

        int value(int i) {
            return i >= 0 && i < size ? row[i] : BAD;
        }

        void gather(Trace trace, int c, int d, int s) {
            clear();
            int gathered = 0;
            for (int i = 0; i < trace.size; i++) {
                if (trace.high(s, i)) {
                    lost += pending;
                    pending = 0;
                } else if (trace.rises(c, i)) {
                    gathered = gathered << 1 & 255 | (trace.high(d, i) ? 1 : 0);
                    pending++;
                }
                if (pending == 8) {
                    add(gathered);
                    whole++;
                    pending = 0;
                }
            }
        }

        void listen(Trace trace, int w, int l) {
            clear();
            int stop = 9 * l + l / 2;
            for (int i = 0; i + stop < trace.size; i++) {
                if (i == 0 ? trace.high(w, 0) : !trace.falls(w, i)) {
                    continue;
                }
                takeFrame(trace, w, l, i);
                i += stop;
            }
        }

        private void takeFrame(Trace trace, int w, int l, int begin) {
            int half = l / 2;
            if (!trace.high(w, begin + 9 * l + half)) {
                broken++;
                add(BROKEN);
                return;
            }
            int v = 0;
            for (int k = 0; k < 8; k++) {
                v |= trace.high(w, begin + (k + 1) * l + half) ? 1 << k : 0;
            }
            whole++;
            add(v);
        }
    }

    /** The values of a trace and how they follow. */
    private static final class Census {
        private final int[] times = new int[HIGHEST_SAMPLE + 1];
        // One bit for each pair: the value ahead times 256 and the value behind.
        private final long[] pairs = new long[1024];
        private int unlikeValues;
        private int commonest;
        private int howOften;

        void tally(Trace trace) {
            Arrays.fill(times, 0);
            for (int i = 0; i < trace.size; i++) {
                times[trace.sample(i) & HIGHEST_SAMPLE]++;
            }
            unlikeValues = 0;
            commonest = NONE;
            howOften = 0;
            for (int v = 0; v < times.length; v++) {
                unlikeValues += times[v] > 0 ? 1 : 0;
                if (times[v] > howOften) {
                    howOften = times[v];
                    commonest = v;
                }
            }
        }

        int unlikePairs(Trace trace) {
            Arrays.fill(pairs, 0L);
            int found = 0;
            for (int i = 1; i < trace.size; i++) {
                int pair = (trace.sample(i - 1) & 255) << 8 | trace.sample(i) & 255;
                if (trace.beginsRun(i) && (pairs[pair >> 6] >> (pair & 63) & 1L) == 0L) {
                    pairs[pair >> 6] |= 1L << (pair & 63);
                    found++;
                }
            }
            return found;
        }
    }

    /** A row of cells of a lane, or nothing. */
    private static final class Sheet {
        private static final int NOTHING = -1;

        private final int[] cells = new int[MOST_CELLS];
        private int lane;
        private int size = NOTHING;

        boolean isNothing() {
            return size == NOTHING;
        }

        boolean has(int i) {
            return i >= 0 && i < size;
        }

        int cell(int i) {
            return has(i) ? cells[i] : 0;
        }

        void renew(int ofLane, int n) {
            lane = ofLane;
            size = Math.max(0, Math.min(n, MOST_CELLS));
            Arrays.fill(cells, 0);
        }

        void write(int i, int v) {
            if (!has(i)) {
                return;
            }
            switch (lane) {
                case 0:
                    cells[i] = (byte) v;
                    break;
                case 1:
                    cells[i] = (short) v;
                    break;
                default:
                    cells[i] = v;
                    break;
            }
        }

        /** What the machine finds where this is taken as of a lane; 0: nothing. */
        int faultAs(int asLane) {
            if (isNothing()) {
                return NULL_FAULT;
            }
            return asLane == lane ? 0 : CAST_FAULT;
        }

        /** How many pairs of cells there are from cell f on, n at most. */
        int wholePairs(int f, int n) {
            return has(f) ? Math.min(n, (size - f) / 2) : 0;
        }
    }
}
