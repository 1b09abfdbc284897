/** Boundary cases of edges, pulses, and of one line by another: 'Terms' and promises 16 to 23. */
final class PulseBounds {
    private static final int BAD = EightWires.BAD;
    private static final int NONE = EightWires.NONE;

    private PulseBounds() {
    }

    static void all() {
        pulsesWithin();
        aheadOfRises();
        behindRises();
        smoothedPulses();
        edges();
        edge();
        pulse();
        pulseRefused();
        duty();
        shorter();
        smooth();
        setup();
        tight();
        Sentences.end();
    }

    /** 400 samples: low, high, low, and so on, in all wires. */
    static EightWires alternating() {
        EightWires x = new EightWires();
        for (int i = 0; i < 400; i++) {
            x.see(1, i % 2 * 255);
        }
        return x;
    }

    /** Low in sample 0, high in the 398 between, low in sample 399; turned, the other way round. */
    private static EightWires longest(boolean turned) {
        EightWires x = Check.level(1, turned ? 255 : 0);
        x.see(398, turned ? 0 : 255);
        x.see(1, turned ? 255 : 0);
        return x;
    }

    private static void pulse(EightWires x, int w, int level, int... due) {
        for (int what = 0; what < 5; what++) {
            Check.due("pulse " + w + " " + level + " " + what, x.pulse(w, level, what), what < due.length ? due[what] : NONE);
        }
    }

    // ---- what the terms say

    private static void pulsesWithin() {
        Sentences.terms("A PULSE of a WIRE: SAMPLES side by side at one level, with another level on either side (both within"
                + " THE TRACE). LEVEL: 1 HIGH, 0 LOW.");
        for (String none : new String[] {"", ".", "#", "..", "##", ".#", "#.", "..##", "##.."}) {
            EightWires x = none.isEmpty() ? new EightWires() : Check.wired(none);
            pulse(x, 0, 0, 0);
            pulse(x, 0, 1, 0);
            Check.due("shorter than 400 in '" + none + "'", x.shorter(0, 400), 0);
        }
        pulse(Check.wired(".#."), 0, 1, 1, 1, 1, 1, 1);
        pulse(Check.wired(".#."), 0, 0, 0);
        pulse(Check.wired("#.#"), 0, 0, 1, 1, 1, 1, 1);
        pulse(Check.wired("#.#"), 0, 1, 0);
        // The first and the last level of the trace are no pulses, however short or long.
        pulse(Check.wired("#..#....."), 0, 1, 1, 1, 3, 1, 3);
        pulse(Check.wired("#..#....."), 0, 0, 1, 2, 1, 2, 1);
        for (int w = 0; w < 8; w++) {
            pulse(longest(false), w, 1, 1, 398, 1, 398, 1);
            pulse(longest(false), w, 0, 0);
            pulse(longest(true), w, 0, 1, 398, 1, 398, 1);
            pulse(longest(true), w, 1, 0);
        }
        // As many as can be.
        EightWires most = alternating();
        pulse(most, 0, 1, 199, 1, 1, 1, 1);
        pulse(most, 7, 0, 199, 1, 2, 1, 2);
        // A cut takes the other side away.
        EightWires x = Check.wired(".##.");
        pulse(x, 0, 1, 1, 2, 1, 2, 1);
        x.cut(3);
        pulse(x, 0, 1, 0);
    }

    private static void setup(EightWires x, int... due) {
        for (int what = 0; what < 4; what++) {
            Check.due("setup " + what, x.setup(0, 1, what), due[what]);
        }
    }

    private static void aheadOfRises() {
        Sentences.terms("AHEAD of a RISE of WIRE c in SAMPLE i: i less the last SAMPLE, i or ahead, in which WIRE d is another one"
                + " than in the SAMPLE ahead of it (none: not told).");
        // In the very sample of the rise: 0; a fall counts as much as a rise.
        setup(Check.wired(".#", ".#"), 0, 1, NONE, NONE);
        setup(Check.wired(".#", "#."), 0, 1, NONE, NONE);
        setup(Check.wired("..#", ".##"), 1, 2, NONE, NONE);
        // Sample 0 has none ahead of it: no change.
        setup(Check.wired(".#", "##"), NONE, NONE, NONE, NONE);
        setup(Check.wired("..#", "###"), NONE, NONE, NONE, NONE);
        // The last one counts.
        setup(Check.wired(".....#", ".#.#.."), 1, 5, NONE, NONE);
        // As far as can be.
        EightWires x = Check.level(1, 0);
        x.see(398, 2);
        x.see(1, 3);
        setup(x, 398, 399, NONE, NONE);
        Check.due("tight, as far as can be", x.tight(0, 1, 398, 0), 0);
        Check.due("tight, one more", x.tight(0, 1, 399, 0), 1);
        // A wire by itself rises with its own change.
        Check.due("by itself", Check.wired(".#.").setup(0, 0, 0), 0);
    }

    private static void behindRises() {
        Sentences.terms("BEHIND: the first such SAMPLE behind i less i (none: not told).");
        // One in the very sample of the rise is not behind it.
        setup(Check.wired(".#.", ".##"), 0, 1, NONE, NONE);
        setup(Check.wired(".#.", ".#."), 0, 1, 1, 1);
        setup(Check.wired(".##", "..#"), NONE, NONE, 1, 1);
        setup(Check.wired(".##", "##."), NONE, NONE, 1, 1);
        // The first one counts.
        setup(Check.wired(".#....", "...#.#"), NONE, NONE, 2, 1);
        // As far as can be.
        EightWires x = Check.level(1, 0);
        x.see(398, 1);
        x.see(1, 3);
        setup(x, NONE, NONE, 398, 1);
        Check.due("tight, as far as can be", x.tight(0, 1, 0, 398), 0);
        Check.due("tight, one more", x.tight(0, 1, 0, 399), 1);
        x.cut(399);
        setup(x, NONE, NONE, NONE, NONE);
    }

    private static void smoothed(int n, String wire, String due) {
        for (int w = 0; w < 8; w++) {
            String[] wires = new String[8];
            for (int v = 0; v < 8; v++) {
                wires[v] = v == w ? wire : "#".repeat(wire.length());
            }
            EightWires x = Check.wired(wires);
            int others = 0;
            for (int i = 0; i < wire.length(); i++) {
                others += wire.charAt(i) != due.charAt(i) ? 1 : 0;
            }
            Check.due("smooth(" + n + ") of " + wire, x.smooth(n), others);
            Check.same("wire " + w + ", smooth(" + n + ") of " + wire, Check.wire(x, w), due);
            Check.same("another wire", Check.wire(x, (w + 1) % 8), "#".repeat(wire.length()));
        }
    }

    private static void smoothedPulses() {
        Sentences.terms("SMOOTHED by n: each WIRE by itself: from the left on, a PULSE shorter than n gets the level of what is"
                + " ahead of it (it is one with that then); and so on.");
        smoothed(1, ".#.#.", ".#.#.");
        smoothed(2, ".#.#.", ".....");
        smoothed(2, "..##..", "..##..");
        smoothed(3, "..##..", "......");
        smoothed(400, "#..#", "####");
        // The ends are no pulses.
        smoothed(400, "#", "#");
        smoothed(400, "#.", "#.");
        smoothed(400, ".#", ".#");
        smoothed(400, "#....", "#....");
        smoothed(400, "....#", "....#");
        smoothed(400, "#.#.#.", "#####.");
        // From the left on: from the right on, these would be others.
        smoothed(2, "..#.##..", "....##..");
        smoothed(3, ".##.##....", "..........");
        smoothed(3, "...##.##...", "...........");
        smoothed(3, ".###.##.###.", ".##########.");
        // One with what is ahead: long enough then, however short what comes is.
        smoothed(3, "...#...##..#...", "...............");
        smoothed(4, ".####..##..####.", ".##############.");
        smoothed(2, "..##.#.#.##..", "..#########..");
        everySample();
    }

    private static void everySample() {
        EightWires most = alternating();
        Check.due("every second one of a full trace", most.smooth(2), 199);
        Check.due("one edge is left", most.edges(0, false), 1);
        Check.due("the last sample", most.at(399), 255);
        Check.due("the one ahead of it", most.at(398), 0);
        Check.due("the longest, by its length", longest(false).smooth(398), 0);
        Check.due("the longest, by one more", longest(false).smooth(399), 398);
        Check.due("the longest, by 400", longest(true).smooth(400), 398);
        // Each wire by itself, in one call.
        EightWires x = Check.wired(".#....", "..#...", "...##.", "#.####", ".####.", "######", "......", "....#.");
        Check.due("by 2", x.smooth(2), 3);
        String[] due = {"......", "......", "...##.", "######", ".####.", "######", "......", "......"};
        for (int w = 0; w < 8; w++) {
            Check.same("wire " + w, Check.wire(x, w), due[w]);
        }
    }

    // ---- promises 16 to 21

    private static void edges() {
        Sentences.promise(16, "How often a WIRE RISES (fall: FALLS).");
        EightWires none = new EightWires();
        EightWires most = alternating();
        for (int w = 0; w < 8; w++) {
            Check.due("rises of none", none.edges(w, false), 0);
            Check.due("falls of none", none.edges(w, true), 0);
            Check.due("rises of 400", most.edges(w, false), 200);
            Check.due("falls of 400", most.edges(w, true), 199);
            Check.due("rises of a level", Check.level(400, 255).edges(w, false), 0);
            Check.due("falls of a level", Check.level(400, 0).edges(w, true), 0);
        }
        Check.due("one sample", Check.wired("#").edges(0, false), 0);
        Check.due("two samples", Check.wired(".#").edges(0, false), 1);
        Sentences.promise(16, "BAD.");
        for (EightWires x : new EightWires[] {none, most}) {
            Check.refuses("rises of wire", 0, 7, BAD, w -> x.edges(w, false));
            Check.refuses("falls of wire", 0, 7, BAD, w -> x.edges(w, true));
        }
    }

    private static void edge() {
        Sentences.promise(17, "The SAMPLE in which it does so for the i-th time (0 first).");
        EightWires most = alternating();
        for (int w : new int[] {0, 7}) {
            Check.due("the first rise", most.edge(w, false, 0), 1);
            Check.due("the last rise", most.edge(w, false, 199), 399);
            Check.due("the first fall", most.edge(w, true, 0), 2);
            Check.due("the last fall", most.edge(w, true, 198), 398);
        }
        Sentences.promise(17, "BAD (also i below 0); NONE: it does not so often.");
        Check.due("no 200th rise", most.edge(0, false, 200), NONE);
        Check.due("no 199th fall", most.edge(0, true, 199), NONE);
        EightWires none = new EightWires();
        for (EightWires x : new EightWires[] {none, most}) {
            Check.refuses("edge of wire", 0, 7, BAD, w -> x.edge(w, false, 0));
            Check.refuses("edge of wire, which there is not", 0, 7, BAD, w -> x.edge(w, true, 400));
            Check.refuses("edge i", 0, Integer.MAX_VALUE, BAD, i -> i < 0 ? x.edge(0, false, i) : BAD);
            Check.due("far above", x.edge(0, false, Integer.MAX_VALUE), NONE);
            Check.due("400", x.edge(0, true, 400), NONE);
        }
        Check.due("of none", none.edge(0, false, 0), NONE);
        Check.due("of a level", Check.level(400, 255).edge(0, true, 0), NONE);
    }

    private static void pulse() {
        Sentences.promise(18, "PULSES of a LEVEL: how many (what 0), the shortest: how long (1), where it begins (2; the first"
                + " such), the longest likewise (3, 4).");
        pulse(Check.wired(".#.#.##.##."), 0, 1, 4, 1, 1, 2, 5);
        pulse(Check.wired("#.#.#..#..#"), 0, 0, 4, 1, 1, 2, 5);
        pulse(Check.wired(".##.##.#.#."), 0, 1, 4, 1, 7, 2, 1);
        // One alone is the shortest and the longest.
        pulse(Check.wired("..###.."), 0, 1, 1, 3, 2, 3, 2);
        pulse(longest(false), 7, 1, 1, 398, 1, 398, 1);
    }

    private static void pulseRefused() {
        Sentences.promise(18, "BAD; NONE: there are none (1 to 4).");
        EightWires none = new EightWires();
        EightWires x = longest(false);
        pulse(none, 0, 0, 0);
        pulse(none, 7, 1, 0);
        pulse(x, 0, 0, 0);
        for (EightWires y : new EightWires[] {none, x}) {
            Check.refuses("pulse of wire", 0, 7, BAD, w -> y.pulse(w, 1, 1));
            Check.refuses("pulse of level", 0, 1, BAD, level -> y.pulse(0, level, 1));
            Check.refuses("pulse what", 0, 4, BAD, what -> y.pulse(0, 1, what));
            Check.refuses("pulse what of the level that has none", 0, 4, BAD, what -> y.pulse(0, 0, what));
        }
    }

    private static void duty(EightWires x, int high, int of) {
        Check.due("duty 0", x.duty(0, 0), high);
        Check.due("duty 1", x.duty(0, 1), of);
    }

    private static void duty() {
        Sentences.promise(19, "Of SAMPLES from the first RISE of a WIRE to one ahead of the last one how many are HIGH by how"
                + " many there are, as a fraction: 0, 1.");
        duty(Check.wired(".#.#"), 1, 2);
        duty(Check.wired(".#.##########"), 1, 2);
        duty(Check.wired("##########.#..#"), 1, 3);
        duty(Check.wired(".#.##.###.#"), 2, 3);
        duty(alternating(), 1, 2);
        EightWires most = Check.level(1, 0);
        most.see(397, 255);
        most.see(1, 0);
        most.see(1, 255);
        duty(most, 397, 398);
        EightWires least = Check.level(1, 0);
        least.see(1, 255);
        least.see(397, 0);
        least.see(1, 255);
        duty(least, 1, 398);
        Sentences.promise(19, "BAD; NONE: fewer than two RISES.");
        EightWires none = new EightWires();
        duty(none, NONE, NONE);
        duty(Check.level(400, 255), NONE, NONE);
        duty(Check.wired(".#"), NONE, NONE);
        duty(Check.wired(".#."), NONE, NONE);
        duty(Check.wired("#.#."), NONE, NONE);
        duty(Check.wired("#.#.#"), 1, 2);
        for (EightWires x : new EightWires[] {none, most}) {
            Check.refuses("duty of wire", 0, 7, BAD, w -> x.duty(w, 0));
            Check.refuses("duty what", 0, 1, BAD, what -> x.duty(0, what));
        }
    }

    private static void shorter() {
        Sentences.promise(20, "PULSES of a WIRE of either LEVEL shorter than n (1 to 400).");
        EightWires none = new EightWires();
        EightWires most = alternating();
        Check.due("of none", none.shorter(0, 400), 0);
        Check.due("shorter than 1", most.shorter(0, 1), 0);
        Check.due("shorter than 2", most.shorter(7, 2), 398);
        Check.due("shorter than 400", most.shorter(0, 400), 398);
        for (boolean turned : new boolean[] {false, true}) {
            Check.due("the longest: 398", longest(turned).shorter(0, 398), 0);
            Check.due("the longest: 399", longest(turned).shorter(0, 399), 1);
            Check.due("the longest: 400", longest(turned).shorter(7, 400), 1);
        }
        Check.due("either level", Check.wired(".#..###.").shorter(0, 3), 2);
        Sentences.promise(20, "BAD.");
        for (EightWires x : new EightWires[] {none, most}) {
            Check.refuses("shorter of wire", 0, 7, BAD, w -> x.shorter(w, 2));
            Check.refuses("shorter n", 1, 400, BAD, n -> x.shorter(0, n));
        }
    }

    private static void smooth() {
        Sentences.promise(21, "THE TRACE is SMOOTHED by n (1 to 400): how many SAMPLES are others then.");
        for (int n : new int[] {1, 2, 399, 400}) {
            Check.due("of none", new EightWires().smooth(n), 0);
            Check.due("of a level", Check.level(400, 170).smooth(n), 0);
        }
        Check.due("by 1", alternating().smooth(1), 0);
        Check.due("by 400", alternating().smooth(400), 199);
        // A sample that is another one in eight wires counts once.
        EightWires once = Check.level(1, 0);
        Check.see(once, 255, 0);
        Check.due("once", once.smooth(2), 1);
        Check.due("again: none", once.smooth(2), 0);
        Check.due("how many samples stay", once.count(0), 3);
        Check.due("none is left", once.runs(), 1);
        Sentences.promise(21, "BAD.");
        EightWires x = alternating();
        Check.refuses("smooth", 1, 400, BAD, x::smooth);
        Check.due("refused: it stays", x.runs(), 400);
        EightWires none = new EightWires();
        Check.refuses("smooth of none", 1, 400, BAD, none::smooth);
    }

    // ---- promises 22 and 23

    private static void setup() {
        Sentences.promise(22, "Of RISES of WIRE c: the least AHEAD of WIRE d (what 0), the RISE (its SAMPLE, the first such; 1),"
                + " the least BEHIND (2), the RISE (3).");
        // Ahead 2, 1, 1; behind 3, 3, 1.
        setup(Check.wired(".....#...#.....#.", "...#####....##..#"), 1, 9, 1, 15);
        // Of equal ones the first.
        setup(Check.wired("...#....#....", "..###..###..."), 1, 3, 2, 3);
        // The least there is: a later one that is as little, or that is more, is not the first.
        setup(Check.wired(".##.##..#", "..####..."), 2, 4, 1, 1);
        setup(Check.wired(".#.##..#.", ".#######."), 0, 1, 1, 7);
        setup(Check.wired(".#.#.", ".#.#."), 0, 1, 1, 1);
        // Told of the second rise alone; of the first alone.
        setup(Check.wired(".#.#", "..##"), 1, 3, 1, 1);
        Sentences.promise(22, "BAD; NONE: none is told.");
        EightWires none = new EightWires();
        setup(none, NONE, NONE, NONE, NONE);
        // No rise of c; no change of d; the changes of d all ahead; all behind.
        setup(Check.wired("####.", ".#.#."), NONE, NONE, NONE, NONE);
        setup(Check.wired(".#.#.", "#####"), NONE, NONE, NONE, NONE);
        setup(Check.wired("...#", ".#.."), 1, 3, NONE, NONE);
        setup(Check.wired(".#..", "...#"), NONE, NONE, 2, 1);
        for (EightWires x : new EightWires[] {none, alternating()}) {
            Check.refuses("setup c", 0, 7, BAD, c -> x.setup(c, 0, 0));
            Check.refuses("setup d", 0, 7, BAD, d -> x.setup(0, d, 0));
            Check.refuses("setup what", 0, 3, BAD, what -> x.setup(0, 0, what));
        }
    }

    private static void tight() {
        Sentences.promise(23, "RISES of c with AHEAD of d below a, or BEHIND below b (0 to 400 each).");
        // Ahead 2, 0, 1; behind 2, 2, not told.
        EightWires x = Check.wired("...#.#..#", ".####..##");
        int[][] due = {{0, 0, 0}, {1, 0, 1}, {2, 0, 2}, {3, 0, 3}, {400, 0, 3}, {0, 1, 0}, {0, 2, 0}, {0, 3, 2}, {0, 400, 2},
            {400, 400, 3}, {2, 3, 3}, {1, 3, 2}, {2, 2, 2}};
        for (int[] d : due) {
            Check.due("tight " + d[0] + " " + d[1], x.tight(0, 1, d[0], d[1]), d[2]);
        }
        // Not told is below nothing.
        Check.due("no change of d", x.tight(0, 2, 400, 400), 0);
        Check.due("no rise of c", x.tight(2, 0, 400, 400), 0);
        Check.due("a wire by itself", alternating().tight(7, 7, 1, 0), 200);
        Check.due("a wire by itself, behind", alternating().tight(7, 7, 0, 2), 199);
        EightWires none = new EightWires();
        Check.due("of none", none.tight(0, 1, 400, 400), 0);
        Sentences.promise(23, "BAD.");
        for (EightWires y : new EightWires[] {none, x}) {
            Check.refuses("tight c", 0, 7, BAD, c -> y.tight(c, 0, 1, 1));
            Check.refuses("tight d", 0, 7, BAD, d -> y.tight(0, d, 1, 1));
            Check.refuses("tight a", 0, 400, BAD, a -> y.tight(0, 1, a, 1));
            Check.refuses("tight b", 0, 400, BAD, b -> y.tight(0, 1, 1, b));
        }
    }
}
