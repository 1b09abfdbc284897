/** Promises 27 to 31: seen, widest, runs, fills, values. */
final class EyesTest {
    private static final int NONE = EightWires.NONE;
    private static final int BAD = EightWires.BAD;

    private EyesTest() {
    }

    static void all() {
        seen();
        widest();
        runs();
        fills();
        values();
    }

    private static void seen(EightWires x, int k, int f, int... due) {
        for (int what = 0; what < 3; what++) {
            Check.due("seen " + k + " " + f + " " + what, x.seen(k, f, what), due[what]);
        }
    }

    private static void seen() {
        EightWires x = new EightWires();
        seen(x, 1, 0, 0, 0, 0);
        Check.see(x, 0, 255, 0, 1, 3, 2, 2);
        // edges: 8, 8, 1, 1, 1, 0
        seen(x, 1, 0, 7, 19, 0);
        seen(x, 2, 0, 4, 0 + 2 + 1, 16);
        seen(x, 2, 1, 3, 7 + 2, 10);
        seen(x, 3, 0, 3, 1 + 2, 16);
        seen(x, 3, 2, 2, 1, 18);
        seen(x, 7, 6, 1, 0, 19);
        seen(x, 8, 7, 0, 0, 19);
        seen(x, 400, 0, 1, 0, 19);
        seen(x, 400, 399, 0, 0, 19);
        int[][] bad = {{0, 0, 0}, {-1, 0, 0}, {401, 0, 0}, {3, -1, 0}, {3, 3, 0}, {1, 1, 0}, {3, 0, -1}, {3, 0, 3},
            {Integer.MIN_VALUE, 0, 0}};
        for (int[] b : bad) {
            Check.due("seen refused", x.seen(b[0], b[1], b[2]), BAD);
        }
        // an eye that looks more seldom may see edges that are told by none side by side
        EightWires y = new EightWires();
        Check.see(y, 0, 0, 0, 1);
        seen(y, 3, 0, 2, 1, 0);
    }

    private static void widest() {
        Check.due("widest of none", new EightWires().widest(), 400);
        Check.due("widest without a pulse", Check.wired("#######...", "...#######").widest(), 400);
        Check.due("widest of a pulse of 3", Check.wired("..###....").widest(), 3);
        Check.due("widest of low ones", Check.wired("##..######").widest(), 2);
        Check.due("widest of several", Check.wired(".#####....", "..####....", "...#####..").widest(), 4);
        Check.due("widest of 1", Check.wired(".####.....", "......#...").widest(), 1);
        EightWires x = new EightWires();
        x.see(1, 0);
        x.see(398, 128);
        x.see(1, 0);
        Check.due("widest of 398", x.widest(), 398);
    }

    private static void runs() {
        EightWires x = new EightWires();
        Check.due("runs of none", x.runs(), 0);
        Check.see(x, 5);
        Check.due("one run", x.runs(), 1);
        Check.see(x, 5, 5, 0, 7, 7, 0);
        Check.due("four runs", x.runs(), 4);
        EightWires y = new EightWires();
        y.see(400, 0);
        Check.due("one long run", y.runs(), 1);
    }

    private static void fills() {
        EightWires x = new EightWires();
        Check.due("fills of none", x.fills(1, 0), BAD);
        Check.see(x, 5, 5, 5, 0, 7, 7, 0);
        int[][] due = {{1, 0, 3}, {2, 0, 4}, {3, 0, 6}, {4, 0, 7}, {5, 0, 7}, {400, 0, 7}, {1, 1, 2}, {1, 2, 1},
            {2, 2, 2}, {1, 3, 1}, {2, 3, 3}, {1, 5, 1}, {1, 6, 1}, {9, 6, 1}};
        for (int[] d : due) {
            Check.due("fills " + d[0] + " " + d[1], x.fills(d[0], d[1]), d[2]);
        }
        int[][] bad = {{0, 0}, {401, 0}, {-1, 0}, {1, -1}, {1, 7}, {1, Integer.MAX_VALUE}};
        for (int[] b : bad) {
            Check.due("fills refused", x.fills(b[0], b[1]), BAD);
        }
    }

    private static void values(EightWires x, int... due) {
        for (int what = 0; what < 4; what++) {
            Check.due("values " + what, x.values(what), due[what]);
        }
    }

    private static void values() {
        EightWires x = new EightWires();
        values(x, 0, 0, NONE, 0);
        Check.due("values -1", x.values(-1), BAD);
        Check.due("values 4", x.values(4), BAD);
        x.see(1, 255);
        values(x, 1, 0, 255, 1);
        Check.see(x, 0, 0, 255, 0, 255);
        // 255 0 0 255 0 255: of several the least
        values(x, 2, 2, 0, 3);
        Check.see(x, 255, 7);
        values(x, 3, 3, 255, 4);
        // the calls leave nothing behind
        values(x, 3, 3, 255, 4);
        x.cut(0);
        values(x, 0, 0, NONE, 0);
        // pairs whose numbers are far apart and near
        Check.see(x, 0, 64, 0, 128, 64, 1, 0, 1, 0, 64);
        values(x, 4, 7, 0, 4);
        x.cut(0);
        Check.see(x, 1, 2, 2);
        values(x, 2, 1, 2, 2);
        EightWires y = new EightWires();
        y.see(400, 9);
        values(y, 1, 0, 9, 400);
    }
}
