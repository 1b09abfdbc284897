/** Promises 32 to 35 and 40: keep, back, unlike, shift, count. */
final class ImagesTest {
    private static final int NONE = EightWires.NONE;
    private static final int BAD = EightWires.BAD;
    private static final int STATE = EightWires.STATE;

    private ImagesTest() {
    }

    static void all() {
        keepAndBack();
        unlike();
        shift();
        count();
    }

    private static void keepAndBack() {
        EightWires x = new EightWires();
        for (int k : new int[] {-1, 2, Integer.MAX_VALUE, Integer.MIN_VALUE}) {
            Check.due("keep " + k, x.keep(k), BAD);
            Check.due("back " + k, x.back(k), BAD);
        }
        Check.due("back of none", x.back(0), STATE);
        Check.see(x, 1, 2, 3);
        Check.due("keep the first time", x.keep(0), NONE);
        Check.due("image 1 is another", x.back(1), STATE);
        x.put(1, 9);
        Check.see(x, 4);
        Check.due("keep again", x.keep(1), NONE);
        Check.due("back", x.back(0), 3);
        Check.due("as it was", x.at(1), 2);
        Check.due("no more", x.count(0), 3);
        // an image is no part of the trace
        x.put(0, 77);
        Check.due("back again", x.back(0), 3);
        Check.due("it stays", x.at(0), 1);
        Check.due("back to 1", x.back(1), 4);
        Check.due("its sample", x.at(1), 9);
        Check.due("its last", x.at(3), 4);
        x.cut(0);
        Check.due("how many the one before had", x.keep(1), 4);
        Check.due("an image of none", x.back(1), 0);
        Check.due("the one before had none", x.keep(1), 0);
    }

    private static void unlike() {
        EightWires x = new EightWires();
        Check.due("unlike of none", x.unlike(0, 0), STATE);
        Check.due("unlike of none by 401", x.unlike(0, 401), BAD);
        Check.see(x, 1, 2, 3, 4);
        x.keep(0);
        int[][] due = {{0, 0}, {1, 5}, {-1, 5}, {4, 8}, {-4, 8}, {3, 7}, {400, 8}, {-400, 8}};
        for (int[] d : due) {
            Check.due("unlike by " + d[0], x.unlike(0, d[0]), d[1]);
        }
        x.cut(0);
        Check.see(x, 3, 4);
        // on sample i and shift of the image
        Check.due("unlike by 2", x.unlike(0, 2), 2);
        Check.due("unlike by -2", x.unlike(0, -2), 6);
        Check.due("unlike by 0", x.unlike(0, 0), 4);
        Check.due("unlike by 3", x.unlike(0, 3), 5);
        x.cut(0);
        Check.due("none on an image", x.unlike(0, 0), 4);
        int[][] bad = {{-1, 0}, {2, 0}, {0, 401}, {0, -401}, {1, 401}, {0, Integer.MIN_VALUE}};
        for (int[] b : bad) {
            Check.due("unlike refused", x.unlike(b[0], b[1]), BAD);
        }
        Check.due("unlike of image 1", x.unlike(1, 0), STATE);
    }

    private static void shift(EightWires x, int shift, int unlike) {
        Check.due("shift 0", x.shift(0, 0), shift);
        Check.due("shift 1", x.shift(0, 1), unlike);
    }

    private static void shift() {
        EightWires x = new EightWires();
        Check.due("shift of none", x.shift(0, 0), STATE);
        Check.due("shift what 2 of none", x.shift(0, 2), BAD);
        x.keep(0);
        shift(x, 0, 0);
        for (int v = 1; v <= 90; v++) {
            x.see(1, v);
        }
        x.keep(0);
        shift(x, 0, 0);
        // the trace begins with what is 40 behind in the image
        x.cut(0);
        for (int v = 41; v <= 90; v++) {
            x.see(1, v);
        }
        shift(x, 40, 40);
        // the image begins with what is 40 behind in the trace
        x.cut(0);
        x.see(40, 200);
        for (int v = 1; v <= 90; v++) {
            x.see(1, v);
        }
        shift(x, -40, 40);
        // 41 is too far: those from -40 to 0 are alike, and 0 is the nearest
        x.cut(0);
        x.see(41, 200);
        for (int v = 1; v <= 90; v++) {
            x.see(1, v);
        }
        shift(x, 0, 131);
        nearest();
        Check.due("shift of -1", x.shift(-1, 0), BAD);
        Check.due("shift of 2", x.shift(2, 0), BAD);
        Check.due("shift what -1", x.shift(0, -1), BAD);
        Check.due("shift what 2", x.shift(0, 2), BAD);
        Check.due("shift of image 1", x.shift(1, 0), STATE);
    }

    private static void nearest() {
        EightWires x = new EightWires();
        Check.see(x, 0, 1, 0, 1, 0);
        x.keep(0);
        x.cut(0);
        Check.see(x, 1, 0, 1, 0, 1);
        // one below and one above are alike: the one below
        shift(x, -1, 2);
        x.cut(0);
        Check.see(x, 1, 0, 1);
        // above is better
        shift(x, 1, 2);
        x.cut(0);
        Check.see(x, 9);
        x.keep(0);
        x.cut(0);
        Check.see(x, 8, 9, 8, 9);
        // -1 and -3 are alike
        shift(x, -1, 3);
    }

    private static void count() {
        EightWires x = new EightWires();
        Check.due("count(-1)", x.count(-1), BAD);
        Check.due("count(4)", x.count(4), BAD);
        x.see(7, 1);
        Check.due("samples", x.count(0), 7);
        x.keep(1);
        Check.due("an image", x.count(1), 1);
        x.keep(1);
        Check.due("the same image", x.count(1), 1);
        x.keep(0);
        Check.due("images", x.count(1), 2);
        x.feed(0);
        x.end(5);
        Check.due("bytes", x.count(2), 5);
        x.sheet(1, 0, 3);
        Check.due("another sheet", x.count(3), NONE);
        x.sheet(0, 0, 0);
        Check.due("no cells", x.count(3), 0);
        x.sheet(0, 2, 40);
        Check.due("cells", x.count(3), 40);
    }
}
