/** Boundary cases of images and sheets: 'Terms' and promises 32 to 40. A method for each sentence. */
final class ImageBounds {
    private static final int BAD = EightWires.BAD;
    private static final int STATE = EightWires.STATE;
    private static final int FULL = EightWires.FULL;
    private static final int NONE = EightWires.NONE;
    private static final int NULL_FAULT = 1;
    private static final int INDEX_FAULT = 2;
    private static final int CAST_FAULT = 3;

    private ImageBounds() {
    }

    static void all() {
        laid();
        sheets();
        machineFaults();
        keep();
        back();
        unlike();
        shift();
        shiftRefused();
        sheet();
        sheetRefused();
        lay();
        layRefused();
        read();
        readTorn();
        readRefused();
        torn();
        count();
        Sentences.end();
    }

    /** n samples, each with a value of its own as far as there are any. */
    private static void count(EightWires x, int from, int n) {
        for (int i = from; i < from + n; i++) {
            x.see(1, i % 256);
        }
    }

    // ---- what the terms say

    private static void laid() {
        Sentences.terms("LAID by a shift: SAMPLE i on SAMPLE i and shift of the TRACE of an IMAGE; UNLIKE where both are there and"
                + " are not the same, or one alone is there.");
        EightWires x = new EightWires();
        count(x, 0, 5);
        x.keep(0);
        x.cut(0);
        count(x, 2, 3);
        // The image 0 1 2 3 4, the trace 2 3 4.
        int[][] due = {{2, 2}, {1, 5}, {3, 2 + 2 + 1 + 1}, {0, 5}, {-1, 6}, {-2, 7}, {-3, 8}, {-4, 8}, {4, 7}, {5, 8}, {6, 8},
            {400, 8}, {-400, 8}};
        for (int[] d : due) {
            Check.due("laid by " + d[0], x.unlike(0, d[0]), d[1]);
        }
        // None on one, one on none, none on none.
        x.cut(0);
        for (int shift : new int[] {-400, -1, 0, 1, 400}) {
            Check.due("none on five", x.unlike(0, shift), 5);
        }
        x.keep(1);
        for (int shift : new int[] {-400, -1, 0, 1, 400}) {
            Check.due("none on none", x.unlike(1, shift), 0);
        }
        x.see(7, 1);
        for (int shift : new int[] {-400, -1, 0, 1, 400}) {
            Check.due("seven on none", x.unlike(1, shift), 7);
        }
    }

    private static void sheets() {
        Sentences.terms("SHEETS 0 to 3 are rows of BYTES (lane 0), SHORTS (1), INTS (2), all with a sign, with 0 to 40 CELLS, or"
                + " nothing (at first).");
        for (int k = 0; k < 4; k++) {
            EightWires x = new EightWires();
            Check.due("nothing at first", x.lay(k, 0, 0), -11);
            for (int lane = 0; lane < 3; lane++) {
                Check.due("0 cells", x.sheet(k, lane, 0), 1);
                Check.due("no cell 0", x.lay(k, 0, 0), -12);
                Check.due("40 cells", x.sheet(k, lane, 40), 1);
                Check.due("cell 0", x.lay(k, 0, 1), 1);
                Check.due("cell 39", x.lay(k, 39, 1), 1);
                Check.due("no cell 40", x.lay(k, 40, 1), -12);
                Check.due("another sheet is nothing still", x.lay((k + 1) % 4, 0, 0), -11);
            }
        }
        // With a sign: what is above is below 0.
        int[][] due = {{0, 127, 127}, {0, 128, BAD}, {0, 255, BAD}, {0, 256, 0}, {0, 383, 127}, {0, 384, BAD}, {0, -128, BAD},
            {0, -129, 127}, {0, -256, 0}, {1, 255, 255}, {1, 256, BAD}, {1, 32767, BAD}, {1, 32768, BAD}, {1, 65535, BAD},
            {1, 65536, 0}, {1, 65791, 255}, {1, 65792, BAD}, {1, -32769, BAD}, {1, -65536, 0}, {1, -65281, 255}, {2, 255, 255},
            {2, 256, BAD}, {2, 65536, BAD}, {2, -1, BAD}, {2, -65536, BAD}, {2, Integer.MAX_VALUE, BAD},
            {2, Integer.MIN_VALUE, BAD}, {0, Integer.MIN_VALUE, 0}, {1, Integer.MIN_VALUE, 0}, {0, Integer.MAX_VALUE, BAD},
            {1, Integer.MAX_VALUE, BAD}};
        for (int[] d : due) {
            EightWires x = new EightWires();
            Portrait.sheet(x, 0, d[0], 1, d[1]);
            Check.due("lane " + d[0] + " of " + d[1], x.read(0, d[0], 0, 1), d[2] < 0 ? -20 : 1);
            Check.due("lane " + d[0] + " of " + d[1] + " is", x.at(0), d[2]);
        }
        // How many samples: a short may be up to 400, a byte up to 127.
        for (int lane = 0; lane < 3; lane++) {
            EightWires x = new EightWires();
            Portrait.sheet(x, 0, lane, 400, 7);
            // The lowest eight bits of 400 are -112.
            Check.due("400 samples of lane " + lane, x.read(0, lane, 0, 1), lane == 0 ? -20 : 1);
            Check.due("they are there", x.count(0), lane == 0 ? 0 : 400);
        }
    }

    private static void torn(EightWires x, int k, int lane, int f, int n, int came, int fault) {
        Check.due("read " + k + " " + lane + " " + f + " " + n, x.read(k, lane, f, n), came);
        Check.due("torn by " + k + " " + lane + " " + f + " " + n, x.torn(), fault);
    }

    private static void machineFaults() {
        Sentences.terms("A FAULT is what the machine finds: 1 NULL (nothing), 2 INDEX, 3 CAST (another lane), 4 SIZE (below 0).");
        EightWires x = new EightWires();
        for (int lane = 0; lane < 3; lane++) {
            torn(x, lane, lane, 0, 1, 0, NULL_FAULT);
            // Nothing is nothing, whatever the cell.
            torn(x, lane, lane, -1, 20, 0, NULL_FAULT);
        }
        Check.due("NULL by lay", x.lay(3, -1, 0), -10 - NULL_FAULT);
        Check.due("SIZE by sheet", x.sheet(3, 0, -1), -14);
        Check.due("it is nothing still", x.lay(3, 0, 0), -10 - NULL_FAULT);
        for (int lane = 0; lane < 3; lane++) {
            Portrait.sheet(x, lane, lane, 1, 1);
            for (int as = 0; as < 3; as++) {
                torn(x, lane, as, 0, 1, as == lane ? 1 : 0, as == lane ? 0 : CAST_FAULT);
                // Another lane is found ahead of the index.
                torn(x, lane, as, 2, 1, 0, as == lane ? INDEX_FAULT : CAST_FAULT);
            }
        }
        Check.due("INDEX by lay", x.lay(0, 2, 0), -10 - INDEX_FAULT);
        // A row of no cells is of a lane, too.
        x.sheet(0, 1, 0);
        torn(x, 0, 1, 0, 1, 0, INDEX_FAULT);
        torn(x, 0, 0, 0, 1, 0, CAST_FAULT);
    }

    // ---- images: promises 32 to 35

    private static void keep() {
        Sentences.promise(32, "IMAGE k (0, 1) is THE TRACE: how many SAMPLES the one before had (NONE: there was none).");
        for (int k = 0; k < 2; k++) {
            EightWires x = new EightWires();
            Check.due("there was none", x.keep(k), NONE);
            Check.due("one of no samples", x.keep(k), 0);
            x.see(400, 255);
            Check.due("one of no samples before", x.keep(k), 0);
            x.cut(1);
            Check.due("one of 400 before", x.keep(k), 400);
            Check.due("one of 1 before", x.keep(k), 1);
            Check.due("the other one: none", x.keep(1 - k), NONE);
            // What becomes of the trace is nothing to the image.
            x.put(0, 0);
            x.see(9, 9);
            Check.due("as it was", x.back(k), 1);
            Check.due("its sample", x.at(0), 255);
        }
        Sentences.promise(32, "BAD.");
        EightWires x = Check.level(3, 1);
        Check.refuses("keep", 0, 1, BAD, x::keep);
        Check.due("no image then", x.count(1), 0);
    }

    private static void back() {
        Sentences.promise(33, "THE TRACE is as IMAGE k: how many SAMPLES.");
        for (int k = 0; k < 2; k++) {
            EightWires x = new EightWires();
            x.keep(k);
            x.see(400, 255);
            x.keep(1 - k);
            Check.due("of no samples", x.back(k), 0);
            Check.due("none are there", x.at(0), BAD);
            Check.due("of 400 samples", x.back(1 - k), 400);
            Check.due("the last is there", x.at(399), 255);
            x.put(399, 7);
            Check.due("again", x.back(1 - k), 400);
            Check.due("the image is as it was", x.at(399), 255);
        }
        Sentences.promise(33, "BAD; STATE: there is none.");
        EightWires x = Check.level(3, 1);
        Check.refuses("back without images", 0, 1, BAD, x::back);
        Check.due("no image 0", x.back(0), STATE);
        Check.due("no image 1", x.back(1), STATE);
        x.keep(0);
        Check.due("no image 1 still", x.back(1), STATE);
        Check.refuses("back with an image", 0, 1, BAD, x::back);
        Check.due("the trace stays", x.count(0), 3);
    }

    private static void unlike() {
        Sentences.promise(34, "How many are UNLIKE, THE TRACE LAID on IMAGE k by a shift (-400 to 400).");
        EightWires x = new EightWires();
        count(x, 0, 400);
        x.keep(0);
        x.keep(1);
        for (int k = 0; k < 2; k++) {
            Check.due("by 0", x.unlike(k, 0), 0);
            // Of 400 laid by one, 399 are on another one; two are alone.
            Check.due("by 1", x.unlike(k, 1), 401);
            Check.due("by -1", x.unlike(k, -1), 401);
            // 256 lower or higher they are alike again: 144 of them.
            Check.due("by 256", x.unlike(k, 256), 512);
            Check.due("by -256", x.unlike(k, -256), 512);
            Check.due("by 399", x.unlike(k, 399), 799);
            Check.due("by -399", x.unlike(k, -399), 799);
            Check.due("by 400", x.unlike(k, 400), 800);
            Check.due("by -400", x.unlike(k, -400), 800);
        }
        Sentences.promise(34, "BAD; STATE likewise.");
        EightWires none = Check.level(3, 1);
        for (EightWires y : new EightWires[] {none, x}) {
            Check.refuses("unlike k", 0, 1, BAD, k -> y.unlike(k, 0));
            Check.refuses("unlike shift", -400, 400, BAD, shift -> y.unlike(0, shift));
        }
        for (int shift : new int[] {-400, 0, 400}) {
            Check.due("no image 0", none.unlike(0, shift), STATE);
            Check.due("no image 1", none.unlike(1, shift), STATE);
        }
    }

    private static void shift(EightWires x, int shift, int unlike) {
        Check.due("the shift", x.shift(0, 0), shift);
        Check.due("how many", x.shift(0, 1), unlike);
    }

    /** The trace is what the image is from one of its samples on, or the other way round. */
    private static EightWires shifted(int by) {
        EightWires x = new EightWires();
        count(x, Math.max(0, -by), 100);
        x.keep(0);
        x.cut(0);
        count(x, Math.max(0, by), 100);
        return x;
    }

    private static void shift() {
        Sentences.promise(35, "The shift (-40 to 40) by which the fewest are UNLIKE, of several the one nearest to 0, then the one"
                + " below it (what 0), how many (1).");
        EightWires none = new EightWires();
        none.keep(0);
        shift(none, 0, 0);
        none.see(400, 1);
        shift(none, 0, 400);
        none.keep(0);
        none.cut(0);
        shift(none, 0, 400);
        for (int by : new int[] {-40, -39, -1, 0, 1, 39, 40}) {
            shift(shifted(by), by, 2 * Math.abs(by));
        }
        // 41 is too far: by every shift they are unlike, the fewest by 0.
        shift(shifted(41), 0, 100);
        shift(shifted(-41), 0, 100);
        // Of several the nearest, above or below.
        EightWires x = new EightWires();
        Check.see(x, 9, 0, 9, 0, 0, 0);
        x.keep(0);
        x.cut(0);
        x.see(1, 9);
        shift(x, 0, 5);
        x.put(0, 0);
        shift(x, 1, 5);
        EightWires y = Check.level(1, 9);
        y.keep(0);
        y.cut(0);
        Check.see(y, 0, 0, 9, 9, 0);
        shift(y, -2, 4);
        // As near above as below: the one below.
        EightWires z = new EightWires();
        Check.see(z, 0, 1, 0, 1, 0);
        z.keep(0);
        z.cut(0);
        Check.see(z, 1, 0, 1, 0, 1);
        shift(z, -1, 2);
        Check.due("above is as good", z.unlike(0, 1), 2);
        // As far as it goes.
        EightWires far = new EightWires();
        far.see(40, 1);
        far.see(1, 2);
        far.see(40, 1);
        far.keep(0);
        far.cut(0);
        Check.see(far, 2);
        shift(far, 40, 80);
        // The other image is another one.
        Check.due("image 1: none", far.shift(1, 0), STATE);
        far.keep(1);
        Check.due("image 1", far.shift(1, 0), 0);
        Check.due("image 1, how many", far.shift(1, 1), 0);
    }

    private static void shiftRefused() {
        Sentences.promise(35, "BAD; STATE likewise.");
        EightWires none = Check.level(3, 1);
        EightWires x = Check.level(3, 1);
        x.keep(0);
        x.keep(1);
        for (EightWires y : new EightWires[] {none, x}) {
            Check.refuses("shift k", 0, 1, BAD, k -> y.shift(k, 0));
            Check.refuses("shift what", 0, 1, BAD, what -> y.shift(0, what));
        }
        for (int what = 0; what < 2; what++) {
            Check.due("no image 0", none.shift(0, what), STATE);
            Check.due("no image 1", none.shift(1, what), STATE);
        }
    }

    // ---- sheets: promises 36 to 39

    private static void sheet() {
        Sentences.promise(36, "A SHEET is a new row of CELLS 0: 1.");
        for (int k = 0; k < 4; k++) {
            EightWires x = new EightWires();
            for (int lane = 0; lane < 3; lane++) {
                Check.due("a row of 40", x.sheet(k, lane, 40), 1);
                for (int i = 0; i < 40; i++) {
                    x.lay(k, i, 1);
                }
                // A new one: all cells are 0 again, so that no see() of them is whole and good.
                Check.due("a row of 40 again", x.sheet(k, lane, 40), 1);
                Check.due("cell 0 is 0", x.read(k, lane, 0, 1), -20);
                Check.due("cell 38 is 0", x.read(k, lane, 38, 1), -20);
                x.lay(k, 38, 1);
                Check.due("cell 39 is 0", x.read(k, lane, 38, 1), 1);
                Check.due("it is", x.at(0), 0);
                x.cut(0);
                Check.due("a row of none", x.sheet(k, lane, 0), 1);
                Check.due("a row of one", x.sheet(k, lane, 1), 1);
                Check.due("its cell", x.lay(k, 0, 1), 1);
                Check.due("no more", x.lay(k, 1, 1), -12);
            }
        }
    }

    private static void sheetRefused() {
        Sentences.promise(36, "BAD: also n above 40; -14 (SIZE): n below 0.");
        EightWires x = new EightWires();
        Portrait.sheet(x, 0, 0, 5, 6);
        Check.refuses("sheet k", 0, 3, BAD, k -> x.sheet(k, 0, 1));
        Check.refuses("sheet lane", 0, 2, BAD, lane -> x.sheet(0, lane, 1));
        Check.refuses("sheet k ahead of SIZE", 0, 3, BAD, k -> x.sheet(k, 0, -1));
        Check.refuses("sheet lane ahead of SIZE", 0, 2, BAD, lane -> x.sheet(0, lane, -1));
        for (int lane = 0; lane < 3; lane++) {
            for (int n : Check.outside(0, 40)) {
                Check.due("sheet n " + n, x.sheet(0, lane, n), n < 0 ? -14 : BAD);
                Check.due("sheet 3 n " + n, x.sheet(3, lane, n), n < 0 ? -14 : BAD);
            }
        }
        Check.due("refused: the row stays", x.count(3), 2);
        Check.due("its cells too", x.read(0, 0, 0, 1), 1);
        Check.due("how many", x.count(0), 5);
        Check.due("which", x.at(0), 6);
        Check.due("nothing stays nothing", x.lay(3, 0, 0), -11);
    }

    private static void lay() {
        Sentences.promise(37, "CELL i of a SHEET becomes v (its lowest bits): 1.");
        for (int lane = 0; lane < 3; lane++) {
            int bits = lane == 0 ? 8 : lane == 1 ? 16 : 32;
            for (int high = -1; high <= 1; high++) {
                EightWires x = new EightWires();
                x.sheet(0, lane, 40);
                // Bits above the lane's own are gone; an int has them all.
                int more = bits == 32 ? high << 30 : high << bits;
                Check.due("cell 0", x.lay(0, 0, 1 + more), 1);
                Check.due("cell 1", x.lay(0, 1, 127 + more), 1);
                Check.due("cell 38", x.lay(0, 38, 2 + more), 1);
                Check.due("cell 39", x.lay(0, 39, 100 + more), 1);
                boolean same = bits < 32 || high == 0;
                Check.due("the first two", x.read(0, lane, 0, 1), same ? 1 : -20);
                Check.due("the last two", x.read(0, lane, 38, 1), same ? 1 : -20);
                Check.due("samples", x.count(0), same ? 3 : 0);
                Check.due("the first", x.at(0), same ? 127 : BAD);
                Check.due("the last", x.at(2), same ? 100 : BAD);
            }
        }
        // A cell that is laid again is the new one; the cells beside it stay.
        EightWires x = new EightWires();
        Portrait.sheet(x, 2, 1, 1, 10, 2, 20);
        x.lay(2, 1, 11);
        x.lay(2, 1, 12);
        Check.due("all of them", x.read(2, 1, 0, 2), 2);
        Check.due("the new one", x.at(0), 12);
        Check.due("the one beside it", x.at(1), 20);
    }

    private static void layRefused() {
        Sentences.promise(37, "BAD: k; -10 less the FAULT: NULL, INDEX.");
        EightWires x = new EightWires();
        Check.refuses("lay k", 0, 3, BAD, k -> x.lay(k, 0, 1));
        for (int i : new int[] {Integer.MIN_VALUE, -1, 0, 39, 40, Integer.MAX_VALUE}) {
            for (int k = 0; k < 4; k++) {
                Check.due("NULL: " + i, x.lay(k, i, 1), -11);
            }
        }
        Portrait.sheet(x, 0, 0, 1, 2);
        x.sheet(1, 1, 0);
        x.sheet(2, 2, 40);
        Check.refuses("INDEX of 2", 0, 1, -12, i -> x.lay(0, i, 9));
        Check.refuses("INDEX of 0", 0, -1, -12, i -> x.lay(1, i, 9));
        Check.refuses("INDEX of 40", 0, 39, -12, i -> x.lay(2, i, 9));
        Check.refuses("lay k, with sheets", 0, 3, BAD, k -> x.lay(k, 99, 1));
        Check.due("refused: the cells stay", x.read(0, 0, 0, 1), 1);
        Check.due("how many", x.count(0), 1);
        Check.due("which", x.at(0), 2);
    }

    private static void read() {
        Sentences.promise(38, "n (0 to 20) see()s (n, v) are read of a SHEET taken as of a lane, two CELLS each from CELL f on, and"
                + " done one behind another: how many came.");
        for (int lane = 0; lane < 3; lane++) {
            EightWires x = new EightWires();
            x.sheet(3, lane, 40);
            for (int i = 0; i < 40; i++) {
                x.lay(3, i, i % 2 == 0 ? 20 : i);
            }
            Check.due("none", x.read(3, lane, 0, 0), 0);
            Check.due("none is done", x.count(0), 0);
            Check.due("the most, from cell 0 on", x.read(3, lane, 0, 20), 20);
            Check.due("they fill the trace", x.count(0), 400);
            Check.due("the first", x.at(19), 1);
            Check.due("the second", x.at(20), 3);
            Check.due("the last", x.at(399), 39);
            x.cut(0);
            Check.due("the last pair", x.read(3, lane, 38, 1), 1);
            Check.due("its samples", x.count(0), 20);
            Check.due("its value", x.at(0), 39);
            x.cut(0);
            Check.due("from an odd cell on", x.read(3, lane, 1, 2), 2);
            Check.due("one and three samples", x.count(0), 4);
            Check.due("of 20", x.at(0), 20);
            Check.due("the last odd one", x.read(3, lane, 37, 1), 1);
            Check.due("37 samples more", x.count(0), 41);
        }
    }

    private static void readTorn() {
        Sentences.promise(38, "What the machine refuses: those that were whole ahead are done (its FAULT is asked by torn(); of n 0: 0,"
                + " no FAULT, whatever the SHEET is).");
        EightWires x = new EightWires();
        Portrait.sheet(x, 0, 0, 1, 5, 2, 6, 3);
        x.sheet(1, 0, 0);
        torn(x, 0, 0, 0, 3, 2, INDEX_FAULT);
        Check.due("two are done", x.count(0), 3);
        Check.due("the last of them", x.at(2), 6);
        x.cut(0);
        torn(x, 0, 0, 0, 20, 2, INDEX_FAULT);
        x.cut(0);
        torn(x, 0, 0, 1, 20, 2, INDEX_FAULT);
        Check.due("five and six", x.count(0), 11);
        torn(x, 0, 0, 3, 2, 1, INDEX_FAULT);
        x.cut(0);
        // The last cell alone is no pair; nor is what is behind it or ahead of all.
        for (int f : new int[] {4, 5, 6, 40, 41, Integer.MAX_VALUE, Integer.MAX_VALUE - 1, -1, -2, Integer.MIN_VALUE}) {
            torn(x, 0, 0, f, 1, 0, INDEX_FAULT);
            torn(x, 0, 0, f, 20, 0, INDEX_FAULT);
        }
        torn(x, 1, 0, 0, 1, 0, INDEX_FAULT);
        torn(x, 2, 0, 0, 1, 0, NULL_FAULT);
        torn(x, 0, 1, 0, 1, 0, CAST_FAULT);
        Check.due("none is done", x.count(0), 0);
        // Of n 0, whatever the sheet and the cell are.
        for (int k = 0; k < 4; k++) {
            for (int lane = 0; lane < 3; lane++) {
                for (int f : new int[] {0, -1, 99, Integer.MIN_VALUE, Integer.MAX_VALUE}) {
                    torn(x, 3, 0, 0, 1, 0, NULL_FAULT);
                    torn(x, k, lane, f, 0, 0, 0);
                }
            }
        }
        EightWires full = Check.level(400, 0);
        torn(full, 0, 0, 0, 0, 0, 0);
        torn(full, 0, 0, 0, 1, 0, NULL_FAULT);
    }

    private static void readRefused() {
        Sentences.promise(38, "BAD: k, lane, n; -20 less i (from 0 on): see() i, whole, is BAD; FULL: it is FULL: then none is done; the"
                + " first met.");
        EightWires x = new EightWires();
        Portrait.sheet(x, 0, 2, 1, 5, 2, 6, 3, 7);
        Check.refuses("read k", 0, 3, BAD, k -> x.read(k, 2, 0, 1));
        Check.refuses("read lane", 0, 2, BAD, lane -> x.read(0, lane, 0, 1));
        Check.refuses("read n", 0, 20, BAD, n -> x.read(0, 2, 0, n));
        Check.refuses("read k of n 0", 0, 3, BAD, k -> x.read(k, 2, 0, 0));
        Check.refuses("read lane of nothing", 0, 2, BAD, lane -> x.read(1, lane, 0, 1));
        Check.due("none is done", x.count(0), 0);
        badPairs();
        fullPairs();
        firstOfBoth();
    }

    private static void badPairs() {
        int[][] bad = {{0, 0}, {-1, 0}, {401, 0}, {1, -1}, {1, 256}, {Integer.MIN_VALUE, 0}, {Integer.MAX_VALUE, 0},
            {1, Integer.MIN_VALUE}, {1, Integer.MAX_VALUE}, {0, 256}};
        for (int[] b : bad) {
            for (int i = 0; i < 20; i += 19) {
                EightWires x = new EightWires();
                x.sheet(0, 2, 40);
                for (int c = 0; c < 40; c++) {
                    x.lay(0, c, 1);
                }
                x.lay(0, 2 * i, b[0]);
                x.lay(0, 2 * i + 1, b[1]);
                Check.due("see() " + i + " of " + b[0] + " " + b[1], x.read(0, 2, 0, 20), -20 - i);
                Check.due("none is done", x.count(0), 0);
                Check.due("those ahead of it", x.read(0, 2, 0, i), i);
            }
        }
        // One that is bad in a pair that is not whole is not met.
        EightWires x = new EightWires();
        Portrait.sheet(x, 0, 2, 1, 1, 500);
        torn(x, 0, 2, 0, 2, 1, INDEX_FAULT);
        // One that is bad behind the last that is asked for is not, either.
        Portrait.sheet(x, 0, 2, 1, 1, 500, 500);
        torn(x, 0, 2, 0, 1, 1, 0);
    }

    private static void fullPairs() {
        EightWires x = new EightWires();
        Portrait.sheet(x, 0, 1, 200, 1, 200, 2, 1, 3);
        Check.due("401 samples", x.read(0, 1, 0, 3), FULL);
        Check.due("none is done", x.count(0), 0);
        Check.due("400 samples", x.read(0, 1, 0, 2), 2);
        Check.due("one on 400", x.read(0, 1, 4, 1), FULL);
        Check.due("none on 400", x.read(0, 1, 4, 0), 0);
        x.cut(399);
        Check.due("one on 399", x.read(0, 1, 4, 1), 1);
        Check.due("400 are there", x.count(0), 400);
        x.cut(1);
        Check.due("400 on one", x.read(0, 1, 0, 2), FULL);
        Check.due("none of the two is done", x.count(0), 1);
    }

    private static void firstOfBoth() {
        EightWires x = new EightWires();
        Portrait.sheet(x, 0, 1, 400, 1, 1, 1, 0, 0);
        Check.due("FULL is met first", x.read(0, 1, 0, 3), FULL);
        Portrait.sheet(x, 0, 1, 400, 1, 0, 0, 1, 1);
        Check.due("BAD is met first", x.read(0, 1, 0, 3), -21);
        Portrait.sheet(x, 0, 1, 400, 1, 400, 256);
        Check.due("one that is both is BAD", x.read(0, 1, 0, 2), -21);
        Portrait.sheet(x, 0, 1, 1, 1, 0, 1, 1);
        Check.due("BAD ahead of the index", x.read(0, 1, 0, 3), -21);
        Portrait.sheet(x, 0, 1, 400, 1, 1, 1, 1);
        Check.due("FULL ahead of the index", x.read(0, 1, 0, 3), FULL);
        Check.due("none is done", x.count(0), 0);
    }

    private static void torn() {
        Sentences.promise(39, "The FAULT of the latest read() that answered 0 or more; 0 (one that is refused leaves it).");
        EightWires x = new EightWires();
        Check.due("none yet", x.torn(), 0);
        Check.due("refused", x.read(4, 0, 0, 1), BAD);
        Check.due("none still", x.torn(), 0);
        torn(x, 0, 0, 0, 1, 0, NULL_FAULT);
        Check.due("it stays", x.torn(), NULL_FAULT);
        Portrait.sheet(x, 0, 1, 1, 1, 0, 0);
        Check.due("BAD k", x.read(-1, 1, 0, 1), BAD);
        Check.due("BAD lane", x.read(0, 3, 0, 1), BAD);
        Check.due("BAD n", x.read(0, 1, 0, 21), BAD);
        Check.due("a see() that is BAD", x.read(0, 1, 0, 2), -21);
        Check.due("refused ones leave it", x.torn(), NULL_FAULT);
        torn(x, 0, 0, 0, 1, 0, CAST_FAULT);
        x.see(400, 0);
        Check.due("FULL", x.read(0, 1, 0, 1), FULL);
        Check.due("FULL leaves it", x.torn(), CAST_FAULT);
        torn(x, 0, 1, 4, 1, 0, INDEX_FAULT);
        // Faults that other calls tell are not its own.
        Check.due("INDEX by lay", x.lay(0, 9, 0), -12);
        Check.due("NULL by lay", x.lay(1, 0, 0), -11);
        Check.due("SIZE by sheet", x.sheet(0, 0, -1), -14);
        Check.due("they leave it", x.torn(), INDEX_FAULT);
        x.cut(0);
        torn(x, 0, 1, 0, 1, 1, 0);
        torn(x, 0, 0, 0, 1, 0, CAST_FAULT);
        torn(x, 0, 0, 0, 0, 0, 0);
    }

    private static void count() {
        Sentences.promise(40, "How many: 0 SAMPLES, 1 IMAGES, 2 bytes on THE TAPE, 3 CELLS of SHEET 0 (NONE: nothing).");
        EightWires x = new EightWires();
        int[] none = {0, 0, 0, NONE};
        for (int what = 0; what < 4; what++) {
            Check.due("none: " + what, x.count(what), none[what]);
        }
        x.keep(1);
        Check.due("an image of no samples is one", x.count(1), 1);
        x.keep(1);
        Check.due("the same again", x.count(1), 1);
        x.keep(0);
        Check.due("both", x.count(1), 2);
        x.sheet(1, 0, 7);
        Check.due("sheet 1 is not counted", x.count(3), NONE);
        x.sheet(0, 0, -1);
        x.sheet(0, 0, 41);
        Check.due("refused ones are not counted", x.count(3), NONE);
        x.sheet(0, 0, 0);
        Check.due("no cells", x.count(3), 0);
        x.sheet(0, 1, 40);
        Check.due("the most cells", x.count(3), 40);
        x.see(400, 0);
        Check.due("the most samples", x.count(0), 400);
        Check.tape(x, " ".repeat(400));
        Check.due("the most bytes", x.count(2), 400);
        x.text();
        Check.due("no bytes behind a text", x.count(2), 0);
        Sentences.promise(40, "BAD.");
        EightWires fresh = new EightWires();
        Check.refuses("count", 0, 3, BAD, x::count);
        Check.refuses("count of a new object", 0, 3, BAD, fresh::count);
    }
}
