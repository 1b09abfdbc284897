/** Promises 36 to 39: sheet, lay, read, torn. */
final class SheetsTest {
    private static final int BAD = EightWires.BAD;
    private static final int FULL = EightWires.FULL;

    private SheetsTest() {
    }

    static void all() {
        sheet();
        lay();
        lanes();
        reads();
        faults();
        refusals();
        firstMet();
        torn();
    }

    private static void sheet() {
        EightWires x = new EightWires();
        for (int k = 0; k < 4; k++) {
            for (int lane = 0; lane < 3; lane++) {
                Check.due("sheet " + k + " " + lane, x.sheet(k, lane, 40), 1);
            }
        }
        int[][] bad = {{-1, 0, 1}, {4, 0, 1}, {0, -1, 1}, {0, 3, 1}, {0, 0, 41}, {4, 0, -1}, {0, 3, -1},
            {0, 0, Integer.MAX_VALUE}};
        for (int[] b : bad) {
            Check.due("sheet refused", x.sheet(b[0], b[1], b[2]), BAD);
        }
        Check.due("sheet below 0", x.sheet(0, 0, -1), -14);
        Check.due("sheet far below 0", x.sheet(0, 0, Integer.MIN_VALUE), -14);
        Check.due("refused: it stays", x.count(3), 40);
        x.lay(0, 1, 5);
        x.sheet(0, 2, 2);
        x.lay(0, 0, 1);
        Check.due("a new row is of 0", x.read(0, 2, 0, 1), 1);
        Check.due("its sample", x.at(0), 0);
        Check.due("an empty row", x.sheet(0, 0, 0), 1);
        Check.due("is not nothing", x.lay(0, 0, 0), -12);
    }

    private static void lay() {
        EightWires x = new EightWires();
        Check.due("lay on nothing", x.lay(3, 0, 0), -11);
        Check.due("lay on nothing, far", x.lay(3, -7, 0), -11);
        x.sheet(3, 0, 2);
        Check.due("lay", x.lay(3, 1, 9), 1);
        Check.due("lay behind", x.lay(3, 2, 9), -12);
        Check.due("lay ahead", x.lay(3, -1, 9), -12);
        Check.due("lay far", x.lay(3, Integer.MAX_VALUE, 9), -12);
        Check.due("lay on -1", x.lay(-1, 0, 0), BAD);
        Check.due("lay on 4", x.lay(4, 0, 0), BAD);
    }

    /** What a cell of a lane holds of v, seen as the level of one sample; below 0: see() is BAD. */
    private static void cell(int lane, int v, int due) {
        EightWires x = new EightWires();
        x.sheet(0, lane, 2);
        x.lay(0, 0, 1);
        Check.due("lay " + v, x.lay(0, 1, v), 1);
        Check.due("lane " + lane + " of " + v, x.read(0, lane, 0, 1), due < 0 ? -20 : 1);
        Check.due("lane " + lane + " holds of " + v, x.at(0), due);
    }

    private static void lanes() {
        cell(0, 127, 127);
        cell(0, 128, BAD);
        cell(0, 255, BAD);
        cell(0, 256 + 7, 7);
        cell(0, -256, 0);
        cell(0, -1, BAD);
        cell(1, 255, 255);
        cell(1, 256, BAD);
        cell(1, 65536 + 200, 200);
        cell(1, 65535, BAD);
        cell(1, 32768, BAD);
        cell(1, -65536, 0);
        cell(2, 255, 255);
        cell(2, 65536, BAD);
        cell(2, -1, BAD);
        cell(2, Integer.MIN_VALUE, BAD);
    }

    private static void fill(EightWires x, int k, int lane, int... cells) {
        x.sheet(k, lane, cells.length);
        for (int i = 0; i < cells.length; i++) {
            x.lay(k, i, cells[i]);
        }
    }

    private static void reads() {
        EightWires x = new EightWires();
        fill(x, 2, 1, 1, 5, 2, 6, 300, 7);
        x.see(1, 99);
        Check.due("read two", x.read(2, 1, 0, 2), 2);
        Check.due("samples", x.count(0), 4);
        int[] due = {99, 5, 6, 6};
        for (int i = 0; i < due.length; i++) {
            Check.due("sample " + i, x.at(i), due[i]);
        }
        Check.due("read from 2", x.read(2, 1, 2, 2), 2);
        Check.due("samples then", x.count(0), 306);
        Check.due("the last", x.at(305), 7);
        x.cut(0);
        // from an odd cell on: (5, 2), (6, 44)
        x.lay(2, 4, 44);
        Check.due("read from 1", x.read(2, 1, 1, 2), 2);
        Check.due("samples of 1", x.count(0), 11);
        Check.due("the first", x.at(4), 2);
        Check.due("the second", x.at(5), 44);
        int[][] bad = {{-1, 1, 0, 1}, {4, 1, 0, 1}, {2, -1, 0, 1}, {2, 3, 0, 1}, {2, 1, 0, -1}, {2, 1, 0, 21}};
        for (int[] b : bad) {
            Check.due("read refused", x.read(b[0], b[1], b[2], b[3]), BAD);
        }
        EightWires y = new EightWires();
        fill(y, 0, 2, new int[40]);
        for (int i = 0; i < 40; i += 2) {
            y.lay(0, i, 20);
        }
        Check.due("read 20", y.read(0, 2, 0, 20), 20);
        Check.due("400 samples", y.count(0), 400);
    }

    private static void read(EightWires x, int k, int lane, int f, int n, int came, int fault, int samples) {
        Check.due("read " + k + " " + lane + " " + f + " " + n, x.read(k, lane, f, n), came);
        Check.due("its fault", x.torn(), fault);
        Check.due("its samples", x.count(0), samples);
    }

    private static void faults() {
        EightWires x = new EightWires();
        fill(x, 0, 0, 1, 5, 2, 6, 3);
        fill(x, 1, 2);
        read(x, 2, 0, 0, 1, 0, 1, 0);
        read(x, 2, 0, 0, 0, 0, 0, 0);
        read(x, 0, 1, 0, 1, 0, 3, 0);
        read(x, 0, 2, 0, 1, 0, 3, 0);
        read(x, 0, 2, -9, 0, 0, 0, 0);
        read(x, 1, 2, 0, 1, 0, 2, 0);
        // another lane is found ahead of the index
        read(x, 1, 0, 0, 1, 0, 3, 0);
        read(x, 0, 0, -1, 1, 0, 2, 0);
        read(x, 0, 0, 5, 1, 0, 2, 0);
        read(x, 0, 0, 4, 1, 0, 2, 0);
        read(x, 0, 0, Integer.MAX_VALUE, 20, 0, 2, 0);
        read(x, 0, 0, Integer.MIN_VALUE, 20, 0, 2, 0);
        // the third pair has one cell: what was whole ahead is done
        read(x, 0, 0, 0, 3, 2, 2, 3);
        Check.due("the first of them", x.at(0), 5);
        Check.due("the second of them", x.at(2), 6);
        read(x, 0, 0, 0, 20, 2, 2, 6);
        read(x, 0, 0, 3, 2, 1, 2, 12);
        read(x, 0, 0, 0, 1, 1, 0, 13);
    }

    private static void refusals() {
        EightWires x = new EightWires();
        fill(x, 0, 2, 1, 5, 2, 256, 0, 1, 401, 0);
        Check.due("see 1 is bad", x.read(0, 2, 0, 2), -21);
        Check.due("see 1 is bad, of more", x.read(0, 2, 0, 4), -21);
        Check.due("see 0 is bad", x.read(0, 2, 2, 1), -20);
        Check.due("0 samples", x.read(0, 2, 4, 1), -20);
        Check.due("401 samples", x.read(0, 2, 6, 1), -20);
        Check.due("none is done", x.count(0), 0);
        fill(x, 0, 2, 200, 1, 200, 2, 1, 3);
        Check.due("full", x.read(0, 2, 0, 3), FULL);
        Check.due("none is done then", x.count(0), 0);
        Check.due("not full", x.read(0, 2, 0, 2), 2);
        Check.due("it is full", x.count(0), 400);
        Check.due("full at once", x.read(0, 2, 4, 1), FULL);
        Check.due("nothing to do", x.read(0, 2, 4, 0), 0);
        int[] ones = new int[40];
        java.util.Arrays.fill(ones, 1);
        ones[39] = -1;
        fill(x, 0, 2, ones);
        x.cut(0);
        Check.due("see 19 is bad", x.read(0, 2, 0, 20), -39);
        Check.due("and not done", x.count(0), 0);
    }

    private static void firstMet() {
        EightWires x = new EightWires();
        // full is met ahead of bad, bad ahead of full, both ahead of the index
        fill(x, 0, 2, 400, 1, 1, 1, 0, 0);
        Check.due("full first", x.read(0, 2, 0, 3), FULL);
        fill(x, 0, 2, 400, 1, 0, 0, 1, 1);
        Check.due("bad first", x.read(0, 2, 0, 3), -21);
        fill(x, 0, 2, 1, 1, 1, 300, 1);
        Check.due("bad ahead of the index", x.read(0, 2, 0, 9), -21);
        fill(x, 0, 2, 400, 1, 1, 1, 1);
        Check.due("full ahead of the index", x.read(0, 2, 0, 9), FULL);
        // a pair that is not whole is no see(): it can not be bad
        fill(x, 0, 2, 1, 1, 500);
        Check.due("the index", x.read(0, 2, 0, 2), 1);
        Check.due("its fault", x.torn(), 2);
        Check.due("its sample", x.count(0), 1);
    }

    private static void torn() {
        EightWires x = new EightWires();
        Check.due("torn at first", x.torn(), 0);
        x.read(0, 0, 0, 1);
        Check.due("torn by nothing", x.torn(), 1);
        x.read(0, 0, 0, 21);
        Check.due("BAD leaves it", x.torn(), 1);
        fill(x, 0, 0, 0, 0);
        x.read(0, 0, 0, 1);
        Check.due("a bad see leaves it", x.torn(), 1);
        x.see(400, 0);
        x.lay(0, 0, 1);
        Check.due("full", x.read(0, 0, 0, 1), FULL);
        Check.due("FULL leaves it", x.torn(), 1);
        x.read(0, 0, 0, 0);
        Check.due("of n 0 no fault", x.torn(), 0);
        x.lay(0, 99, 1);
        Check.due("lay leaves it", x.torn(), 0);
    }
}
