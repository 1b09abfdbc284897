/** Boundary cases of bytes, of other eyes and stores: 'Terms' and promises 24 to 31. A method for each sentence. */
final class ByteBounds {
    private static final int BAD = EightWires.BAD;
    private static final int NONE = EightWires.NONE;
    private static final int BROKEN = -5;

    private ByteBounds() {
    }

    static void all() {
        frameBegins();
        bitPlaces();
        stop();
        stopNotWithin();
        nextFrame();
        bitsGathered();
        seenBy();
        runsAlike();
        bits();
        serial();
        rate();
        seen();
        widest();
        runs();
        fills();
        values();
        Sentences.end();
    }

    private static void serial(EightWires x, int l, int good, int broken) {
        Check.due("not broken at " + l, x.serial(0, l, 0), good);
        Check.due("broken at " + l, x.serial(0, l, 1), broken);
    }

    /** Low in so many samples, then high up to an end. */
    private static EightWires lowThenHigh(int low, int all) {
        EightWires x = new EightWires();
        if (low > 0) {
            x.see(low, 0);
        }
        if (low < all) {
            x.see(all - low, 255);
        }
        return x;
    }

    // ---- what the terms say of bytes of a wire

    private static void frameBegins() {
        Sentences.terms("BYTES of a WIRE at a RATE l (2 to 50): where it FALLS (or is LOW in SAMPLE 0), a frame begins:");
        serial(lowThenHigh(19, 20), 2, 1, 0);
        serial(lowThenHigh(0, 400), 2, 0, 0);
        serial(new EightWires(), 2, 0, 0);
        // High in sample 0: it has to fall.
        EightWires x = Check.level(1, 255);
        x.see(19, 0);
        x.see(1, 255);
        serial(x, 2, 1, 0);
        Check.due("its byte", x.serial(0, 2, 10), 0);
        // Low in sample 0 alone begins one; low in sample 1 without a fall does not.
        EightWires y = Check.level(400, 0);
        serial(y, 2, 0, 1);
        // Of the wire itself, whatever the wires beside it are.
        for (int w = 0; w < 8; w++) {
            EightWires low = Check.level(19, 255 - (1 << w));
            low.see(1, 255);
            Check.due("wire " + w + " is low in sample 0", low.serial(w, 2, 0), 1);
            EightWires other = Check.level(19, 1 << w);
            other.see(1, 255);
            Check.due("wire " + w + " is high in sample 0", other.serial(w, 2, 0) + other.serial(w, 2, 1), 0);
        }
        // Each rate from the fastest to the slowest.
        for (int l = 2; l <= 50; l++) {
            serial(lowThenHigh(9 * l, 400), l, l <= 42 ? 1 : 0, 0);
        }
    }

    private static void bitPlaces() {
        Sentences.terms("bit k (0 to 7, the lowest first) is what it is (k + 1) times l and half l (divided down) SAMPLES behind;");
        for (int l = 2; l <= 42; l++) {
            for (int k = 0; k < 8; k++) {
                EightWires x = Check.level(9 * l + l / 2, 0);
                x.see(1, 255);
                int place = (k + 1) * l + l / 2;
                x.put(place, 255);
                Check.due("bit " + k + " at " + l, x.serial(0, l, 10), 1 << k);
                x.put(place, 0);
                x.put(place - 1, 255);
                Check.due("one sample ahead of bit " + k + " at " + l, x.serial(0, l, 10), 0);
                x.put(place - 1, 0);
                x.put(place + 1, 255);
                Check.due("one sample behind bit " + k + " at " + l, x.serial(0, l, 10), 0);
            }
        }
        EightWires all = Check.level(1, 0);
        all.see(19, 255);
        Check.due("all bits", all.serial(0, 2, 10), 255);
        Check.due("all bits, of wire 7", all.serial(7, 2, 10), 255);
    }

    private static void stop() {
        Sentences.terms("the stop at 9 times l and half l: HIGH, else it is BROKEN.");
        for (int l = 2; l <= 42; l++) {
            int place = 9 * l + l / 2;
            EightWires x = Check.level(place + 1, 0);
            serial(x, l, 0, 1);
            Check.due("broken at " + l, x.serial(0, l, 10), BROKEN);
            x.put(place - 1, 255);
            serial(x, l, 0, 1);
            x.put(place - 1, 0);
            x.put(place, 255);
            serial(x, l, 1, 0);
            Check.due("whole at " + l, x.serial(0, l, 10), 0);
        }
        // Broken, whatever its bits are.
        EightWires y = Check.level(1, 0);
        y.see(18, 255);
        y.see(1, 0);
        serial(y, 2, 0, 1);
        Check.due("broken with all bits", y.serial(0, 2, 10), BROKEN);
    }

    private static void stopNotWithin() {
        Sentences.terms("A frame whose stop is not within THE TRACE is none, nor is any behind it.");
        for (int l = 2; l <= 42; l++) {
            int place = 9 * l + l / 2;
            serial(lowThenHigh(1, place + 1), l, 1, 0);
            serial(lowThenHigh(1, place), l, 0, 0);
            serial(Check.level(place, 0), l, 0, 0);
        }
        serial(lowThenHigh(1, 400), 42, 1, 0);
        serial(lowThenHigh(1, 399), 42, 0, 0);
        for (int l = 43; l <= 50; l++) {
            serial(lowThenHigh(1, 400), l, 0, 0);
            serial(Check.level(400, 0), l, 0, 0);
        }
        // The wire falls again and again behind it.
        EightWires x = Check.wired("." + "#.".repeat(9));
        serial(x, 2, 0, 0);
        Check.due("no frame 0", x.serial(0, 2, 10), BAD);
        // One whole, then one whose stop is one sample too far.
        EightWires y = Check.wired(".".repeat(19) + "#" + ".".repeat(19));
        serial(y, 2, 1, 0);
        y.see(1, 0);
        serial(y, 2, 1, 1);
    }

    private static void nextFrame() {
        Sentences.terms("The next one is looked for behind the SAMPLE of the stop.");
        // Right behind the stop.
        EightWires x = Check.wired((".".repeat(19) + "#").repeat(2));
        serial(x, 2, 2, 0);
        // Falls within a frame begin none.
        serial(Check.wired(".#.#.#.#.#.#.#.#.#.#########"), 2, 1, 0);
        // A fall in the very sample of the stop breaks that frame and begins none.
        EightWires y = Check.wired(".".repeat(18) + "#" + ".".repeat(40));
        serial(y, 2, 0, 1);
        // Low behind a broken one: it has to fall first.
        EightWires z = Check.wired(".".repeat(25) + "#" + ".".repeat(18) + "##");
        serial(z, 2, 1, 1);
        Check.due("the broken one is frame 0", z.serial(0, 2, 10), BROKEN);
        Check.due("the whole one is frame 1", z.serial(0, 2, 11), 0);
        // As many as can be.
        EightWires most = Check.wired((".".repeat(19) + "#").repeat(20));
        serial(most, 2, 20, 0);
        Check.due("the last", most.serial(0, 2, 29), 0);
    }

    private static void bits(EightWires x, int bytes, int lost, int left) {
        Check.due("bytes", x.bits(0, 1, 2, 0), bytes);
        Check.due("lost", x.bits(0, 1, 2, 1), lost);
        Check.due("at the end", x.bits(0, 1, 2, 2), left);
    }

    private static void bitsGathered() {
        Sentences.terms("BITS of WIRE d by RISES of WIRE c: SAMPLE by SAMPLE: where WIRE s is HIGH, bits that are no BYTE yet are"
                + " lost; else, where c RISES, what d is comes behind them; eight make a BYTE, the highest first.");
        // High in sample 0 is no rise; d counts in the very sample of the rise.
        bits(Check.wired("#.#.#", "#####", "....."), 0, 0, 2);
        for (int k = 0; k < 8; k++) {
            StringBuilder d = new StringBuilder(".".repeat(16));
            d.setCharAt(2 * k + 1, '#');
            EightWires x = Check.wired(".#".repeat(8), d.toString(), ".".repeat(16));
            bits(x, 1, 0, 0);
            Check.due("the highest first: " + k, x.bits(0, 1, 2, 10), 128 >> k);
        }
        // Seven are no byte, eight are; nine leave one.
        bits(Check.wired(".#".repeat(7), "#".repeat(14)), 0, 0, 7);
        bits(Check.wired(".#".repeat(8), "#".repeat(16)), 1, 0, 0);
        bits(Check.wired(".#".repeat(9), "#".repeat(18)), 1, 0, 1);
        // Seven lost by s; a byte that is made is not lost; where s is high, a rise counts for nothing.
        bits(Check.wired(".#".repeat(7) + ".", "#".repeat(15), ".".repeat(14) + "#"), 0, 7, 0);
        bits(Check.wired(".#".repeat(8) + ".", "#".repeat(17), ".".repeat(16) + "#"), 1, 0, 0);
        bits(Check.wired(".#".repeat(8), "#".repeat(16), ".".repeat(15) + "#"), 0, 7, 0);
        bits(Check.wired(".#".repeat(8), "#".repeat(16), "#".repeat(16)), 0, 0, 0);
        // Lost once, however long s is high; bits behind count anew.
        bits(Check.wired(".#.#.#.#.#.#", "############", "....####...."), 0, 2, 2);
        // s is high in sample 0 alone.
        bits(Check.wired(".#.#", "####", "#..."), 0, 0, 2);
        // What is lost does not stay in the byte that comes.
        EightWires x = Check.wired(".#".repeat(11), "#".repeat(7) + ".".repeat(15), "......#" + ".".repeat(15));
        bits(x, 1, 3, 0);
        Check.due("a byte of eight new bits", x.bits(0, 1, 2, 10), 0);
        // The same wire for all: high is lost, so that nothing is left to come.
        Check.due("one wire for all", PulseBounds.alternating().bits(0, 0, 0, 2), 0);
        Check.due("one wire for c and d", PulseBounds.alternating().bits(0, 0, 1, 0), 0);
    }

    private static void seenBy() {
        Sentences.terms("SEEN by an eye that looks at each k-th SAMPLE from SAMPLE f on.");
        EightWires x = new EightWires();
        for (int i = 0; i < 9; i++) {
            x.see(1, 1 << i % 8);
        }
        int[][] due = {{1, 0, 9}, {2, 0, 5}, {2, 1, 4}, {3, 0, 3}, {3, 1, 3}, {3, 2, 3}, {4, 0, 3}, {4, 1, 2}, {4, 3, 2},
            {8, 0, 2}, {8, 1, 1}, {9, 0, 1}, {9, 8, 1}, {10, 8, 1}, {10, 9, 0}, {400, 0, 1}, {400, 8, 1}, {400, 9, 0},
            {400, 399, 0}};
        for (int[] d : due) {
            Check.due("seen " + d[0] + " " + d[1], x.seen(d[0], d[1], 0), d[2]);
        }
    }

    private static void runsAlike() {
        Sentences.terms("RUNS: SAMPLES alike side by side.");
        EightWires x = new EightWires();
        Check.see(x, 7, 7, 9, 7, 7);
        Check.due("alike, but not side by side", x.runs(), 3);
        Check.due("a store of one", x.fills(1, 0), 2);
        Check.due("a store of two", x.fills(2, 0), 3);
        // Two calls of see() make one run.
        x.see(1, 7);
        Check.due("one behind another", x.runs(), 3);
    }

    // ---- promises 24 to 26

    private static void bits() {
        Sentences.promise(24, "BITS: BYTES (what 0), bits lost (1), bits at the end that are no BYTE yet (2); 10 and i: BYTE i.");
        bits(new EightWires(), 0, 0, 0);
        bits(Check.level(400, 255), 0, 0, 0);
        EightWires most = new EightWires();
        for (int i = 0; i < 200; i++) {
            most.see(1, 0);
            most.see(1, i % 8 == i / 8 % 8 ? 3 : 1);
        }
        bits(most, 25, 0, 0);
        Check.due("byte 0", most.bits(0, 1, 2, 10), 128);
        Check.due("byte 7", most.bits(0, 1, 2, 17), 1);
        Check.due("byte 24", most.bits(0, 1, 2, 34), 128);
        Sentences.promise(24, "BAD: also one that there is not.");
        Check.due("byte 25", most.bits(0, 1, 2, 35), BAD);
        EightWires none = new EightWires();
        Check.due("byte 0 of none", none.bits(0, 1, 2, 10), BAD);
        Check.due("byte 0 of seven bits", Check.wired(".#".repeat(7)).bits(0, 1, 2, 10), BAD);
        for (EightWires x : new EightWires[] {none, most}) {
            for (int what = 3; what < 10; what++) {
                Check.due("bits what " + what, x.bits(0, 1, 2, what), BAD);
            }
            Check.refuses("bits what", 0, 34, BAD, what -> x.bits(0, 1, 2, what));
            Check.refuses("bits c", 0, 7, BAD, c -> x.bits(c, 1, 2, 0));
            Check.refuses("bits d", 0, 7, BAD, d -> x.bits(0, d, 2, 0));
            Check.refuses("bits s", 0, 7, BAD, s -> x.bits(0, 1, s, 0));
        }
    }

    private static void serial() {
        Sentences.promise(25, "BYTES at RATE l: frames that are not BROKEN (what 0), BROKEN ones (1); 10 and i: the BYTE of frame i"
                + " (BROKEN: -5).");
        EightWires most = Check.wired((".".repeat(19) + "#").repeat(20));
        serial(most, 2, 20, 0);
        Check.due("frame 0", most.serial(0, 2, 10), 0);
        Check.due("frame 19", most.serial(0, 2, 29), 0);
        // All of them broken, and their bytes too.
        EightWires broken = Check.wired(".".repeat(19) + ("." + "#" + ".".repeat(19)).repeat(18));
        serial(broken, 2, 0, 18);
        Check.due("the last broken one", broken.serial(0, 2, 27), BROKEN);
        Check.due("no more", broken.serial(0, 2, 28), BAD);
        serial(new EightWires(), 50, 0, 0);
        Sentences.promise(25, "BAD: also one that there is not.");
        Check.due("frame 20", most.serial(0, 2, 30), BAD);
        EightWires none = new EightWires();
        Check.due("frame 0 of none", none.serial(0, 2, 10), BAD);
        for (EightWires x : new EightWires[] {none, most}) {
            for (int what = 2; what < 10; what++) {
                Check.due("serial what " + what, x.serial(0, 2, what), BAD);
            }
            Check.refuses("serial what", 0, 29, BAD, what -> x.serial(0, 2, what));
            Check.refuses("serial w", 0, 7, BAD, w -> x.serial(w, 2, 0));
            Check.refuses("serial l", 2, 50, BAD, l -> x.serial(0, l, 0));
        }
    }

    private static void rate(EightWires x, int... due) {
        for (int what = 0; what < 3; what++) {
            Check.due("rate " + what, x.rate(0, what), due[what]);
        }
    }

    private static void rate() {
        Sentences.promise(26, "The RATE with the most frames that are not BROKEN, of several the fewest that are, then the least"
                + " (what 0), how many are not (1), are (2).");
        // Nothing at any rate: the least.
        rate(new EightWires(), 2, 0, 0);
        rate(Check.level(400, 255), 2, 0, 0);
        rate(Check.level(19, 0), 2, 0, 0);
        // Broken at every rate whose stop is there: the least at which it is not.
        rate(Check.level(20, 0), 3, 0, 0);
        rate(Check.level(399, 0), 42, 0, 0);
        rate(Check.level(400, 0), 43, 0, 0);
        // One whole frame, from a rate on: the least of these.
        for (int l = 3; l <= 42; l++) {
            rate(lowThenHigh(9 * l + l / 2, 400), l, 1, 0);
            rate(lowThenHigh(9 * (l - 1) + (l - 1) / 2 + 1, 400), l, 1, 0);
        }
        rate(lowThenHigh(19, 400), 2, 1, 0);
        rate(lowThenHigh(20, 400), 3, 1, 0);
        // At 2 one is whole and one broken, at 3 one is whole: the fewest broken.
        rate(Check.wired(".".repeat(25) + "#####" + ".".repeat(10) + "##########"), 3, 1, 0);
        // The most that are whole, even if more are broken than at another rate.
        rate(Check.wired(".".repeat(20) + "#####" + (".".repeat(19) + "#").repeat(2) + "##########"), 2, 2, 1);
        rate(Check.wired((".".repeat(19) + "#").repeat(20)), 2, 20, 0);
        Sentences.promise(26, "BAD.");
        for (EightWires x : new EightWires[] {new EightWires(), Check.level(400, 0)}) {
            Check.refuses("rate w", 0, 7, BAD, w -> x.rate(w, 0));
            Check.refuses("rate what", 0, 2, BAD, what -> x.rate(0, what));
        }
    }

    // ---- promises 27 to 31

    private static void seen() {
        Sentences.promise(27, "SEEN by each k-th (1 to 400) from f (0 to k less 1) on: SAMPLES (what 0), edges of all WIRES between"
                + " one and the next one (1), edges of THE TRACE less these (2).");
        EightWires none = new EightWires();
        EightWires most = PulseBounds.alternating();
        int[][] due = {{1, 0, 400, 3192, 0}, {2, 0, 200, 0, 3192}, {2, 1, 200, 0, 3192}, {3, 0, 134, 1064, 2128},
            {3, 2, 133, 1056, 2136}, {399, 0, 2, 8, 3184}, {399, 1, 1, 0, 3192}, {400, 0, 1, 0, 3192},
            {400, 399, 1, 0, 3192}};
        for (int[] d : due) {
            for (int what = 0; what < 3; what++) {
                Check.due("seen " + d[0] + " " + d[1] + " " + what, most.seen(d[0], d[1], what), d[2 + what]);
                Check.due("of none", none.seen(d[0], d[1], what), 0);
            }
        }
        // Sample 0 has none ahead of it: whatever it is, it is no edge.
        EightWires high = Check.level(1, 255);
        high.see(2, 254);
        int[] edges = {3, 1, 0};
        for (int what = 0; what < 3; what++) {
            Check.due("from a high sample 0 on", high.seen(1, 0, what), edges[what]);
        }
        Check.due("edges not seen", high.seen(3, 2, 2), 1);
        Sentences.promise(27, "BAD.");
        for (EightWires x : new EightWires[] {none, most}) {
            Check.refuses("seen k", 1, 400, BAD, k -> x.seen(k, 0, 0));
            Check.refuses("seen f of 1", 0, 0, BAD, f -> x.seen(1, f, 0));
            Check.refuses("seen f of 3", 0, 2, BAD, f -> x.seen(3, f, 0));
            Check.refuses("seen f of 400", 0, 399, BAD, f -> x.seen(400, f, 0));
            Check.refuses("seen what", 0, 2, BAD, what -> x.seen(3, 0, what));
        }
    }

    private static void widest() {
        Sentences.promise(28, "The greatest k (1 to 400) with which a SAMPLE of each PULSE of each WIRE is SEEN, from whichever f on.");
        Check.due("no sample", new EightWires().widest(), 400);
        Check.due("no pulse", Check.level(400, 85).widest(), 400);
        Check.due("no pulse, but edges", lowThenHigh(1, 400).widest(), 400);
        Check.due("pulses of 1", PulseBounds.alternating().widest(), 1);
        for (int w = 0; w < 8; w++) {
            for (int length : new int[] {1, 2, 7, 199, 398}) {
                EightWires high = Check.level(1, 0);
                high.see(length, 1 << w);
                high.see(1, 0);
                Check.due("a high pulse of " + length, high.widest(), length);
                EightWires low = Check.level(1, 1 << w);
                low.see(length, 0);
                low.see(1, 1 << w);
                Check.due("a low pulse of " + length, low.widest(), length);
            }
        }
        // The shortest of all wires, the last one too.
        Check.due("of several", Check.wired(".####.", "#....#", "......", "......", "......", "......", "......", "..##..").widest(), 2);
    }

    private static void runs() {
        Sentences.promise(29, "RUNS of THE TRACE.");
        Check.due("of none", new EightWires().runs(), 0);
        Check.due("of one", Check.level(1, 0).runs(), 1);
        Check.due("of 400 alike", Check.level(400, 255).runs(), 1);
        Check.due("of 400 unlike", PulseBounds.alternating().runs(), 400);
        EightWires x = lowThenHigh(399, 400);
        Check.due("the last by itself", x.runs(), 2);
        x.cut(399);
        Check.due("it is cut off", x.runs(), 1);
    }

    private static void fills() {
        Sentences.promise(30, "SAMPLES that a store of m (1 to 400) RUNS has room for, from SAMPLE i on.");
        EightWires most = PulseBounds.alternating();
        int[][] due = {{1, 0, 1}, {399, 0, 399}, {400, 0, 400}, {400, 399, 1}, {1, 399, 1}, {1, 398, 1}, {2, 398, 2}, {3, 398, 2},
            {399, 1, 399}, {398, 1, 398}, {400, 1, 399}};
        for (int[] d : due) {
            Check.due("fills " + d[0] + " " + d[1], most.fills(d[0], d[1]), d[2]);
        }
        EightWires level = Check.level(400, 0);
        Check.due("one run", level.fills(1, 0), 400);
        Check.due("from its middle on", level.fills(1, 200), 200);
        Check.due("from its last on", level.fills(400, 399), 1);
        Sentences.promise(30, "BAD (i: a SAMPLE).");
        EightWires none = new EightWires();
        Check.due("of none", none.fills(1, 0), BAD);
        Check.refuses("fills i of none", 0, -1, BAD, i -> none.fills(1, i));
        EightWires three = Check.level(3, 0);
        Check.refuses("fills i of 3", 0, 2, BAD, i -> three.fills(1, i));
        Check.refuses("fills i of 400", 0, 399, BAD, i -> most.fills(1, i));
        Check.refuses("fills m", 1, 400, BAD, m -> three.fills(m, 0));
    }

    private static void values(EightWires x, int... due) {
        for (int what = 0; what < 4; what++) {
            Check.due("values " + what, x.values(what), due[what]);
        }
    }

    private static void values() {
        Sentences.promise(31, "How many unlike values THE TRACE has (what 0), unlike pairs of unlike values, one right behind the"
                + " other (1), the value it has most often, of several the least (2; NONE), how often (3).");
        values(new EightWires(), 0, 0, NONE, 0);
        values(Check.level(1, 0), 1, 0, 0, 1);
        values(Check.level(400, 255), 1, 0, 255, 400);
        EightWires all = new EightWires();
        for (int v = 255; v >= 0; v--) {
            all.see(1, v);
        }
        values(all, 256, 255, 0, 1);
        all.see(1, 255);
        values(all, 256, 256, 255, 2);
        values(PulseBounds.alternating(), 2, 2, 0, 200);
        // A pair and its turn are two; a pair that comes again is one; alike ones are none.
        EightWires x = new EightWires();
        Check.see(x, 1, 2);
        values(x, 2, 1, 1, 1);
        Check.see(x, 1);
        values(x, 2, 2, 1, 2);
        Check.see(x, 2, 2, 1);
        values(x, 2, 2, 1, 3);
        // One right behind the other alone.
        EightWires y = new EightWires();
        Check.see(y, 0, 0, 255, 255, 0, 255);
        values(y, 2, 2, 0, 3);
        // As many unlike pairs as 400 samples have.
        EightWires most = new EightWires();
        for (int i = 0; i < 400; i++) {
            most.see(1, i % 2 == 0 ? i / 2 : 255 - i / 200);
        }
        values(most, 202, 399, 254, 100);
        Sentences.promise(31, "BAD.");
        for (EightWires z : new EightWires[] {new EightWires(), all}) {
            Check.refuses("values", 0, 3, BAD, z::values);
        }
    }
}
