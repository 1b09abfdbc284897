/** Promises 16 to 21: edges, edge, pulse, duty, shorter, smooth. */
final class PulsesTest {
    private static final int NONE = EightWires.NONE;
    private static final int BAD = EightWires.BAD;

    private PulsesTest() {
    }

    static void all() {
        edges();
        pulses();
        duty();
        shorter();
        smoothed();
        smoothCounts();
    }

    private static void edges() {
        EightWires x = Check.wired("#.##..#", ".######", ".......");
        Check.due("rises of 0", x.edges(0, false), 2);
        Check.due("falls of 0", x.edges(0, true), 2);
        Check.due("rises of 1", x.edges(1, false), 1);
        Check.due("falls of 1", x.edges(1, true), 0);
        Check.due("rises of 7", x.edges(7, false), 0);
        Check.due("rise 0", x.edge(0, false, 0), 2);
        Check.due("rise 1", x.edge(0, false, 1), 6);
        Check.due("rise 2", x.edge(0, false, 2), NONE);
        Check.due("fall 0", x.edge(0, true, 0), 1);
        Check.due("fall 1", x.edge(0, true, 1), 4);
        Check.due("fall 2", x.edge(0, true, 2), NONE);
        Check.due("edge far", x.edge(0, true, Integer.MAX_VALUE), NONE);
        Check.due("edge -1", x.edge(0, false, -1), BAD);
        for (int w : new int[] {-1, 8, Integer.MAX_VALUE, Integer.MIN_VALUE}) {
            Check.due("edges of " + w, x.edges(w, true), BAD);
            Check.due("edge of " + w, x.edge(w, true, 0), BAD);
        }
        EightWires y = new EightWires();
        Check.due("edges of none", y.edges(0, false), 0);
        Check.due("edge of none", y.edge(0, false, 0), NONE);
        // wire 7 is the highest bit
        Check.see(y, 0, 128, 127);
        Check.due("rise of 7", y.edge(7, false, 0), 1);
        Check.due("fall of 7", y.edge(7, true, 0), 2);
    }

    private static void pulse(EightWires x, int w, int level, int... due) {
        for (int what = 0; what < 5; what++) {
            Check.due("pulse " + w + " " + level + " " + what, x.pulse(w, level, what), due[what]);
        }
    }

    private static void pulses() {
        EightWires x = Check.wired("#..##.####..##.#", "....####........", "#######.........", "..#.............");
        pulse(x, 0, 1, 3, 2, 3, 4, 6);
        pulse(x, 0, 0, 4, 1, 5, 2, 1);
        pulse(x, 1, 1, 1, 4, 4, 4, 4);
        pulse(x, 1, 0, 0, NONE, NONE, NONE, NONE);
        pulse(x, 2, 1, 0, NONE, NONE, NONE, NONE);
        pulse(x, 2, 0, 0, NONE, NONE, NONE, NONE);
        pulse(x, 3, 1, 1, 1, 2, 1, 2);
        pulse(x, 7, 0, 0, NONE, NONE, NONE, NONE);
        pulse(new EightWires(), 0, 1, 0, NONE, NONE, NONE, NONE);
        int[][] bad = {{-1, 0, 0}, {8, 0, 0}, {0, -1, 0}, {0, 2, 0}, {0, 0, -1}, {0, 0, 5}, {7, 0, 5}};
        for (int[] b : bad) {
            Check.due("pulse refused", x.pulse(b[0], b[1], b[2]), BAD);
        }
    }

    private static void duty(String wire, int high, int of) {
        EightWires x = Check.wired(wire);
        Check.due("duty 0 of " + wire, x.duty(0, 0), high);
        Check.due("duty 1 of " + wire, x.duty(0, 1), of);
    }

    private static void duty() {
        duty(".#..#", 1, 3);
        duty(".##..#", 1, 2);
        duty("#.##.###.#..", 5, 7);
        duty(".###...###...#", 1, 2);
        duty(".####..#", 2, 3);
        duty(".#.#", 1, 2);
        duty(".#...", NONE, NONE);
        duty("####.", NONE, NONE);
        duty("#..##", NONE, NONE);
        EightWires x = Check.wired(".#.#");
        Check.due("duty of -1", x.duty(-1, 0), BAD);
        Check.due("duty of 8", x.duty(8, 0), BAD);
        Check.due("duty what -1", x.duty(0, -1), BAD);
        Check.due("duty what 2", x.duty(0, 2), BAD);
        Check.due("duty what 2 of no rise", x.duty(1, 2), BAD);
        Check.due("duty of none", new EightWires().duty(0, 0), NONE);
    }

    private static void shorter() {
        EightWires x = Check.wired("#..##.####..##.#");
        int[] due = {0, 0, 2, 6, 6, 7};
        for (int n = 1; n < due.length; n++) {
            Check.due("shorter than " + n, x.shorter(0, n), due[n]);
        }
        Check.due("shorter than 400", x.shorter(0, 400), 7);
        Check.due("shorter of no pulse", x.shorter(1, 400), 0);
        Check.due("shorter than 0", x.shorter(0, 0), BAD);
        Check.due("shorter than 401", x.shorter(0, 401), BAD);
        Check.due("shorter of -1", x.shorter(-1, 1), BAD);
        Check.due("shorter of 8", x.shorter(8, 1), BAD);
        EightWires y = new EightWires();
        y.see(1, 0);
        y.see(398, 1);
        y.see(1, 0);
        Check.due("398 shorter than 398", y.shorter(0, 398), 0);
        Check.due("398 shorter than 399", y.shorter(0, 399), 1);
    }

    private static void smoothed(int n, String wire, String due) {
        EightWires x = Check.wired(wire);
        int others = 0;
        for (int i = 0; i < wire.length(); i++) {
            others += wire.charAt(i) != due.charAt(i) ? 1 : 0;
        }
        Check.due("smooth(" + n + ") of " + wire, x.smooth(n), others);
        Check.same("smooth(" + n + ") of " + wire, Check.wire(x, 0), due);
    }

    private static void smoothed() {
        smoothed(2, "..#..", ".....");
        smoothed(1, ".#.#.", ".#.#.");
        smoothed(2, ".#.#.", ".....");
        smoothed(2, ".#.#.#", ".....#");
        smoothed(2, "#.#.#.", "#####.");
        smoothed(3, "..##...", ".......");
        smoothed(2, "..##...", "..##...");
        // what begins or ends the trace is no pulse, however short
        smoothed(9, "#....", "#....");
        smoothed(9, "....#", "....#");
        smoothed(9, ".#", ".#");
        // from the left on: the first pulse is smoothed, and the next is one with what is ahead
        smoothed(3, "....##.##....", ".............");
        smoothed(3, "..###.##.###..", "..##########..");
        smoothed(3, "..##..###..", "......###..");
        smoothed(2, "...#.##.#..", ".....####..");
        smoothed(400, ".##..###.....####.", "..................");
        // what a pulse has grown to is long enough
        smoothed(4, "..####.#.#.##....", "..###########....");
        smoothed(3, "#.#..#...#", "######...#");
    }

    private static void smoothCounts() {
        // each wire by itself; a sample that is another one in two wires counts once
        EightWires x = Check.wired("..##....", "..##....", "....#...", ".######.", "#######.");
        Check.due("smooth(3)", x.smooth(3), 3);
        Check.same("wire 0", Check.wire(x, 0), "........");
        Check.same("wire 1", Check.wire(x, 1), "........");
        Check.same("wire 2", Check.wire(x, 2), "........");
        Check.same("wire 3", Check.wire(x, 3), ".######.");
        Check.same("wire 4", Check.wire(x, 4), "#######.");
        Check.due("smooth(3) again", x.smooth(3), 0);
        Check.due("smooth(0)", x.smooth(0), BAD);
        Check.due("smooth(401)", x.smooth(401), BAD);
        Check.due("smooth(-1)", x.smooth(-1), BAD);
        Check.due("smooth(400)", x.smooth(400), 6);
        Check.due("smooth of none", new EightWires().smooth(5), 0);
        EightWires y = new EightWires();
        Check.see(y, 0, 128, 0);
        Check.due("smooth wire 7", y.smooth(2), 1);
        Check.due("wire 7", y.at(1), 0);
    }
}
