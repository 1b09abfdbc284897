import java.util.Random;

/** Long runs of calls, whose answers are compared with those of Model; every run starts from a told seed. */
final class ModelTest {
    private static final int RUNS = 1200;
    private static final int CALLS = 512;

    private final Random random;
    private final int seed;
    private final EightWires x = new EightWires();
    private final Model m = new Model();
    private int calls = 0;
    // Few values and wires, so that much is alike.
    private final int mask;

    private ModelTest(int seed) {
        this.seed = seed;
        random = new Random(seed);
        mask = new int[] {1, 3, 7, 0x81, 255}[seed % 5];
    }

    static void all() {
        for (int seed = 0; seed < RUNS; seed++) {
            new ModelTest(seed).play();
        }
    }

    private void play() {
        while (calls < CALLS - 70) {
            int turn = random.nextInt(12);
            if (turn == 0) {
                tell();
            } else if (turn < 4) {
                change();
            } else {
                ask(random.nextInt(31));
            }
        }
    }

    private void same(String call, int got, int want) {
        calls++;
        if (got != want) {
            Check.due("seed " + seed + ", call " + calls + ", " + call, got, want);
        } else {
            Check.due(call, got, want);
        }
    }

    /** A number that is mostly as told, now and then at an edge or far off. */
    private int near(int low, int high) {
        switch (random.nextInt(24)) {
            case 0:
                return low - 1;
            case 1:
                return high + 1;
            case 2:
                return low;
            case 3:
                return high;
            case 4:
                return new int[] {Integer.MIN_VALUE, Integer.MAX_VALUE, -1, 0}[random.nextInt(4)];
            default:
                return low + random.nextInt(Math.max(1, high - low + 1));
        }
    }

    private int wire() {
        return random.nextInt(3) > 0 ? random.nextInt(3) : near(0, 7);
    }

    private int sample() {
        return near(0, m.count(0) - 1);
    }

    private int what(int high) {
        return random.nextInt(3) > 0 ? random.nextInt(high + 1) : near(8, 16);
    }

    private void change() {
        switch (random.nextInt(10)) {
            case 0: {
                int n = random.nextInt(4) == 0 ? 0 : sample() + 1;
                same("cut " + n, x.cut(n), m.cut(n));
                break;
            }
            case 1: {
                int i = sample();
                int v = near(0, 255) & (random.nextInt(9) == 0 ? -1 : mask);
                same("put " + i + " " + v, x.put(i, v), m.put(i, v));
                break;
            }
            case 2: {
                int n = random.nextInt(3) == 0 ? near(1, 400) : 1 + random.nextInt(5);
                same("smooth " + n, x.smooth(n), m.smooth(n));
                break;
            }
            case 3: {
                int k = near(0, 1);
                same("keep " + k, x.keep(k), m.keep(k));
                break;
            }
            case 4: {
                int k = near(0, 1);
                same("back " + k, x.back(k), m.back(k));
                break;
            }
            case 5:
                sheet();
                break;
            default:
                see();
                break;
        }
    }

    private void see() {
        int most = new int[] {1, 2, 4, 9, 30}[random.nextInt(5)];
        int times = 1 + random.nextInt(30);
        for (int i = 0; i < times; i++) {
            int n = random.nextInt(60) == 0 ? near(1, 400) : 1 + random.nextInt(most);
            int v = random.nextInt(60) == 0 ? near(0, 255) : random.nextInt(256) & mask;
            same("see " + n + " " + v, x.see(n, v), m.see(n, v));
        }
    }

    private void sheet() {
        int k = near(0, 3);
        int lane = near(0, 2);
        int n = near(0, 40);
        same("sheet " + k + " " + lane + " " + n, x.sheet(k, lane, n), m.sheet(k, lane, n));
        int cells = Math.min(n, 12);
        for (int i = 0; i < cells; i++) {
            int v = random.nextInt(25) == 0 ? random.nextInt() : 1 + random.nextInt(40);
            int at = random.nextInt(25) == 0 ? near(0, n - 1) : i;
            same("lay " + k + " " + at + " " + v, x.lay(k, at, v), m.lay(k, at, v));
        }
        int as = random.nextInt(4) == 0 ? near(0, 2) : lane;
        int f = random.nextInt(3) == 0 ? near(0, n - 1) : 0;
        int many = random.nextInt(3) == 0 ? near(0, 20) : random.nextInt(7);
        same("read " + k + " " + as + " " + f + " " + many, x.read(k, as, f, many), m.read(k, as, f, many));
        same("torn", x.torn(), m.torn());
    }

    private void tell() {
        String text = new Texts(random, mask).text();
        for (int i = 0; i < text.length(); i += 8) {
            long v = 0;
            for (int j = i; j < i + 8; j++) {
                v = v << 8 | (j < text.length() ? text.charAt(j) : ' ');
            }
            same("feed " + v, x.feed(v), m.feed(v));
        }
        if (random.nextInt(4) > 0) {
            int n = random.nextInt(12) == 0 ? near(0, m.count(2)) : Math.min(text.length(), m.count(2));
            same("end " + n, x.end(n), m.end(n));
        }
        same("text '" + text + "'", x.text(), m.text());
        same("fault of '" + text + "'", x.fault(), m.fault());
        for (int what = 0; what < 4; what++) {
            same("rule " + what, x.rule(what), m.rule(what));
        }
    }

    private void ask(int which) {
        int w = wire();
        int d = wire();
        boolean fall = random.nextBoolean();
        switch (which) {
            case 0: {
                int what = random.nextInt(3) == 0 ? near(10, 18) : near(0, 4);
                same("rule " + what, x.rule(what), m.rule(what));
                break;
            }
            case 1: {
                int s = near(0, 2);
                int b = near(0, 2);
                int what = random.nextInt(25);
                same("branch " + s + " " + b + " " + what, x.branch(s, b, what), m.branch(s, b, what));
                break;
            }
            case 2: {
                int i = sample();
                same("at " + i, x.at(i), m.at(i));
                break;
            }
            case 3:
            case 4: {
                int what = near(0, 3);
                same("run " + what, x.run(what), m.run(what));
                break;
            }
            case 5: {
                int i = sample();
                same("state " + i, x.state(i), m.state(i));
                break;
            }
            case 6:
            case 7: {
                int what = random.nextInt(3) == 0 ? near(10, 409) : what(2);
                same("stored " + what, x.stored(what), m.stored(what));
                break;
            }
            case 8: {
                int i = sample();
                same("next " + i, x.next(i), m.next(i));
                break;
            }
            case 9:
                same("edges " + w, x.edges(w, fall), m.edges(w, fall));
                break;
            case 10: {
                int i = near(0, 9);
                same("edge " + w + " " + fall + " " + i, x.edge(w, fall, i), m.edge(w, fall, i));
                break;
            }
            case 11: {
                int level = near(0, 1);
                int what = near(0, 4);
                same("pulse " + w + " " + level + " " + what, x.pulse(w, level, what), m.pulse(w, level, what));
                break;
            }
            case 12: {
                int what = near(0, 1);
                same("duty " + w + " " + what, x.duty(w, what), m.duty(w, what));
                break;
            }
            case 13: {
                int n = random.nextBoolean() ? near(1, 400) : near(1, 6);
                same("shorter " + w + " " + n, x.shorter(w, n), m.shorter(w, n));
                break;
            }
            case 14: {
                int what = near(0, 3);
                same("setup " + w + " " + d + " " + what, x.setup(w, d, what), m.setup(w, d, what));
                break;
            }
            case 15: {
                int a = random.nextBoolean() ? near(0, 400) : near(0, 4);
                int b = random.nextBoolean() ? near(0, 400) : near(0, 4);
                same("tight " + w + " " + d + " " + a + " " + b, x.tight(w, d, a, b), m.tight(w, d, a, b));
                break;
            }
            case 16:
            case 17: {
                int s = random.nextBoolean() ? 7 : wire();
                int what = what(2);
                same("bits " + w + " " + d + " " + s + " " + what, x.bits(w, d, s, what), m.bits(w, d, s, what));
                break;
            }
            default:
                askMore(which, w);
                break;
        }
    }

    private void askMore(int which, int w) {
        switch (which) {
            case 18:
            case 19: {
                int l = random.nextBoolean() ? near(2, 50) : near(2, 5);
                int what = what(1);
                same("serial " + w + " " + l + " " + what, x.serial(w, l, what), m.serial(w, l, what));
                break;
            }
            case 20: {
                int what = near(0, 2);
                same("rate " + w + " " + what, x.rate(w, what), m.rate(w, what));
                break;
            }
            case 21:
            case 22: {
                int k = random.nextBoolean() ? near(1, 400) : near(1, 7);
                int f = near(0, k - 1);
                int what = near(0, 2);
                same("seen " + k + " " + f + " " + what, x.seen(k, f, what), m.seen(k, f, what));
                break;
            }
            case 23:
                same("widest", x.widest(), m.widest());
                break;
            case 24:
                same("runs", x.runs(), m.runs());
                break;
            case 25: {
                int many = random.nextBoolean() ? near(1, 400) : near(1, 9);
                int i = sample();
                same("fills " + many + " " + i, x.fills(many, i), m.fills(many, i));
                break;
            }
            case 26: {
                int what = near(0, 3);
                same("values " + what, x.values(what), m.values(what));
                break;
            }
            case 27: {
                int k = near(0, 1);
                int shift = random.nextBoolean() ? near(-400, 400) : near(-5, 5);
                same("unlike " + k + " " + shift, x.unlike(k, shift), m.unlike(k, shift));
                break;
            }
            case 28: {
                int k = near(0, 1);
                int what = near(0, 1);
                same("shift " + k + " " + what, x.shift(k, what), m.shift(k, what));
                break;
            }
            case 29: {
                int what = near(0, 3);
                same("count " + what, x.count(what), m.count(what));
                break;
            }
            default:
                same("fault", x.fault(), m.fault());
                break;
        }
    }

    /** Texts, most of them right, some with a stroke of chance in them. */
    private static final class Texts {
        private static final String[] WORDS = {"state", "keep", "depth", "ahead", "times", "go", "hit", "high", "low",
            "rise", "fall", "is", "not", "after", ";", "|", "&", "0", "1", "7", "8", "99", "256", "400", "999", "1000",
            ".", "a", "", " ", "\u00e9"};

        private final Random random;
        private final int mask;
        private final StringBuilder b = new StringBuilder();
        private final int faults;

        Texts(Random random, int mask) {
            this.random = random;
            this.mask = mask;
            faults = random.nextInt(3) == 0 ? 25 : 1000000;
        }

        private void put(String s) {
            if (random.nextInt(faults) == 0) {
                b.append(WORDS[random.nextInt(WORDS.length)]);
                if (random.nextBoolean()) {
                    return;
                }
            }
            char last = b.length() == 0 ? ' ' : b.charAt(b.length() - 1);
            boolean names = Character.isLetter(last) && Character.isLetter(s.charAt(0));
            boolean numbers = Character.isDigit(last) && Character.isDigit(s.charAt(0));
            int blanks = random.nextInt(3) == 0 ? random.nextInt(3) : 0;
            b.append(" ".repeat(names || numbers ? Math.max(1, blanks) : blanks)).append(s);
        }

        private void number(int low, int high) {
            int n = random.nextInt(faults / 2) == 0 ? high + 1 : low + random.nextInt(high - low + 1);
            put(Integer.toString(n));
        }

        private void cond() {
            int terms = 1 + random.nextInt(faults < 100 && random.nextInt(5) == 0 ? 4 : random.nextInt(3) + 1);
            for (int i = 0; i < Math.min(terms, faults < 100 ? 4 : 3); i++) {
                if (i > 0) {
                    put("&");
                }
                int kind = random.nextInt(7);
                put(new String[] {"high", "low", "rise", "fall", "is", "not", "after"}[kind]);
                if (kind < 4) {
                    number(0, random.nextInt(4) == 0 ? 7 : 1);
                } else if (kind < 6) {
                    put(Integer.toString(random.nextInt(256) & mask));
                } else {
                    number(1, random.nextInt(4) == 0 ? 999 : 6);
                }
            }
        }

        private void state(int states) {
            put("state");
            int branches = 1 + random.nextInt(faults < 100 && random.nextInt(4) == 0 ? 4 : 3);
            for (int i = 0; i < branches; i++) {
                if (i > 0) {
                    put("|");
                }
                cond();
                if (random.nextInt(3) == 0) {
                    put("times");
                    number(1, random.nextInt(3) == 0 ? 99 : 4);
                }
                put("go");
                if (random.nextInt(4) == 0) {
                    put("hit");
                } else {
                    number(0, states - 1);
                }
            }
            put(";");
        }

        String text() {
            int states = random.nextInt(faults < 100 && random.nextInt(4) == 0 ? 10 : 4);
            boolean twice = faults < 100;
            if (random.nextInt(2) == 0) {
                put("keep");
                cond();
                put(";");
            }
            for (int s = 0; s < states; s++) {
                state(states);
                if (twice && random.nextInt(12) == 0) {
                    put("depth");
                    number(1, 400);
                    put(";");
                }
            }
            if (random.nextInt(2) == 0) {
                put("depth");
                number(1, random.nextInt(3) == 0 ? 400 : 20);
                put(";");
            }
            if (random.nextInt(2) == 0) {
                put("ahead");
                number(0, random.nextInt(3) == 0 ? 399 : 10);
                put(";");
            }
            return b.toString();
        }
    }
}
