/** Boundary cases of the trace and of a run: 'Terms' and promises 8 to 15. A method for each sentence. */
final class TraceBounds {
    private static final int BAD = EightWires.BAD;
    private static final int FULL = EightWires.FULL;
    private static final int NONE = EightWires.NONE;
    private static final int STATE = EightWires.STATE;

    private TraceBounds() {
    }

    static void all() {
        samplesAndWires();
        risesAndFalls();
        see();
        seeRefused();
        cut();
        cutBad();
        at();
        put();
        runBegins();
        branchesGo();
        after();
        withoutStates();
        storedSamples();
        run();
        runRefused();
        state();
        stateRefused();
        stored();
        storedRefused();
        next();
        Sentences.end();
    }

    private static void run(EightWires x, int hit, int state, int entered, int looked) {
        Check.due("the hit", x.run(0), hit);
        Check.due("the state at the end", x.run(1), state);
        Check.due("how often entered", x.run(2), entered);
        Check.due("looked at", x.run(3), looked);
    }

    // ---- the trace

    private static void samplesAndWires() {
        Sentences.terms("THE TRACE has SAMPLES, 400 at most (none at first): 0 to 255 each, bit w: WIRE w (0 to 7) is HIGH"
                + " (else LOW).");
        Check.due("none at first", new EightWires().count(0), 0);
        for (int w = 0; w < 8; w++) {
            EightWires x = Check.told("keep high " + w + ";");
            EightWires y = Check.told("keep low " + w + ";");
            for (int i = 0; i < 32; i++) {
                // One wire alone is high, all but that one, none, all.
                int v = new int[] {1 << i / 4, 255 - (1 << i / 4), 0, 255}[i % 4];
                boolean high = i % 4 == 3 || (i / 4 == w ? i % 4 == 0 : i % 4 == 1);
                x.see(1, v);
                y.see(1, v);
                Check.due("wire " + w + " of " + v + " is high", x.next(i) == i ? 1 : 0, high ? 1 : 0);
                Check.due("wire " + w + " of " + v + " is low", y.next(i) == i ? 1 : 0, high ? 0 : 1);
            }
        }
        EightWires full = Check.level(400, 255);
        Check.due("400 at most", full.see(1, 0), FULL);
        Portrait.sheet(full, 0, 0, 1, 0);
        Check.due("400 at most, by a sheet", full.read(0, 0, 0, 1), FULL);
        Check.due("400 at most, by an image: keep", full.keep(0), NONE);
        Check.due("400 at most, by an image", full.back(0), 400);
        Check.due("400 are there", full.count(0), 400);
    }

    private static void risesAndFalls() {
        Sentences.terms("It RISES in SAMPLE i, if it is HIGH there and LOW one ahead; FALLS likewise (SAMPLE 0: neither).");
        for (int w = 0; w < 8; w++) {
            EightWires x = Check.level(1, 255);
            Check.due("high in sample 0 is no rise", x.edges(w, false), 0);
            Check.due("nor a fall", x.edges(w, true), 0);
            EightWires y = Check.level(1, 0);
            Check.due("low in sample 0 is no rise", y.edges(w, false), 0);
            Check.due("nor a fall", y.edges(w, true), 0);
            y.see(1, 1 << w);
            Check.due("a rise in sample 1", y.edge(w, false, 0), 1);
            Check.due("of this wire alone", y.edges((w + 1) % 8, false), 0);
            x.see(1, 255 - (1 << w));
            Check.due("a fall in sample 1", x.edge(w, true, 0), 1);
            Check.due("of this wire alone", x.edges((w + 1) % 8, true), 0);
        }
        // What stood in a place ahead of a cut is no sample ahead.
        EightWires x = Check.level(3, 0);
        x.cut(0);
        x.see(2, 255);
        Check.due("sample 0 behind a cut", x.edges(0, false), 0);
        // Neither for a run nor for keep.
        for (int v : new int[] {0, 255}) {
            EightWires y = Check.told("state rise 0 go hit | fall 0 go hit; keep rise 0;");
            y.see(1, v);
            Check.due("no hit in sample 0", y.run(0), NONE);
            Check.due("no rise for keep", y.next(0), NONE);
            Check.tell(y, "keep fall 0;");
            Check.due("no fall for keep", y.next(0), NONE);
        }
        // In the last sample there may be.
        EightWires last = Check.level(399, 0);
        last.see(1, 1);
        Check.due("a rise in sample 399", last.edge(0, false, 0), 399);
    }

    private static void see() {
        Sentences.promise(8, "n (1 to 400) SAMPLES of v (0 to 255) come behind THE TRACE: how many it has.");
        EightWires x = new EightWires();
        Check.due("the fewest of the least", x.see(1, 0), 1);
        Check.due("the fewest of the greatest", x.see(1, 255), 2);
        Check.due("up to 400", x.see(398, 7), 400);
        int[] due = {0, 255, 7};
        for (int i = 0; i < 3; i++) {
            Check.due("sample " + i, x.at(i), due[i]);
        }
        Check.due("the last", x.at(399), 7);
        Check.due("the most at once", new EightWires().see(400, 255), 400);
        Check.due("all but one", new EightWires().see(399, 0), 399);
        x.cut(2);
        Check.due("again, behind a cut", x.see(398, 9), 400);
        Check.due("they are new", x.at(2), 9);
        Check.due("the last is new", x.at(399), 9);
    }

    private static void seeRefused() {
        Sentences.promise(8, "BAD; FULL.");
        for (EightWires x : new EightWires[] {new EightWires(), Check.level(7, 1), Check.level(400, 1)}) {
            int size = x.count(0);
            Check.refuses("see n", 1, 400, BAD, n -> x.see(n, 0));
            Check.refuses("see v", 0, 255, BAD, v -> x.see(1, v));
            Check.due("both", x.see(0, 256), BAD);
            Check.due("BAD is ahead of FULL", x.see(400, 256), BAD);
            Check.due("BAD is ahead of FULL", x.see(401, 0), BAD);
            for (int n : new int[] {401 - size, 402 - size, 400}) {
                if (n >= 1 && n <= 400 && size > 0) {
                    Check.due("see " + n + " on " + size, x.see(n, 0), FULL);
                }
            }
            Check.due("the trace stays", x.count(0), size);
            Check.due("what would have been the next is not", x.at(size), BAD);
        }
        EightWires y = Check.level(399, 1);
        Check.due("two on 399", y.see(2, 1), FULL);
        Check.due("one on 399", y.see(1, 1), 400);
        Check.due("one on 400", y.see(1, 1), FULL);
    }

    private static void cut() {
        Sentences.promise(9, "THE TRACE keeps its first n SAMPLES: how many it had.");
        Check.due("none of none", new EightWires().cut(0), 0);
        EightWires x = new EightWires();
        Check.see(x, 5, 6, 7);
        Check.due("all", x.cut(3), 3);
        Check.due("all but one", x.cut(2), 3);
        Check.due("the first", x.at(0), 5);
        Check.due("the second", x.at(1), 6);
        Check.due("the third is gone", x.at(2), BAD);
        Check.due("one", x.cut(1), 2);
        Check.due("none", x.cut(0), 1);
        Check.due("none is there", x.count(0), 0);
        EightWires full = Check.level(400, 1);
        Check.due("all of a full one", full.cut(400), 400);
        Check.due("399 of a full one", full.cut(399), 400);
        Check.due("none of 399", full.cut(0), 399);
    }

    private static void cutBad() {
        Sentences.promise(9, "BAD (n above that, too).");
        EightWires none = new EightWires();
        Check.refuses("cut of none", 0, 0, BAD, none::cut);
        EightWires x = new EightWires();
        Check.see(x, 5, 6, 7);
        Check.refuses("cut of 3", 0, 3, BAD, x::cut);
        Check.due("the trace stays", x.count(0), 3);
        Check.due("the last too", x.at(2), 7);
        EightWires full = Check.level(400, 1);
        Check.refuses("cut of 400", 0, 400, BAD, full::cut);
        Check.due("the full one stays", full.count(0), 400);
        // What was cut off is there no more.
        x.cut(1);
        Check.refuses("cut of 1", 0, 1, BAD, x::cut);
    }

    private static void at() {
        Sentences.promise(10, "SAMPLE i.");
        EightWires x = new EightWires();
        Check.see(x, 0, 255, 128);
        Check.due("the first", x.at(0), 0);
        Check.due("the greatest", x.at(1), 255);
        Check.due("the last", x.at(2), 128);
        EightWires full = Check.level(399, 3);
        full.see(1, 4);
        Check.due("sample 398", full.at(398), 3);
        Check.due("sample 399", full.at(399), 4);
        Sentences.promise(10, "BAD.");
        Check.refuses("at of 3", 0, 2, BAD, x::at);
        Check.refuses("at of 400", 0, 399, BAD, full::at);
        EightWires none = new EightWires();
        Check.refuses("at of none", 0, -1, BAD, none::at);
        Check.due("at(0) of none", none.at(0), BAD);
        full.cut(399);
        Check.due("one that was cut off", full.at(399), BAD);
    }

    private static void put() {
        Sentences.promise(11, "SAMPLE i becomes v (0 to 255): what it was.");
        EightWires x = new EightWires();
        Check.see(x, 5, 6, 7);
        Check.due("the first", x.put(0, 0), 5);
        Check.due("the last", x.put(2, 255), 7);
        Check.due("the first again", x.put(0, 255), 0);
        Check.due("the last again", x.put(2, 0), 255);
        Check.due("the same", x.put(2, 0), 0);
        Check.due("the one between stays", x.at(1), 6);
        EightWires full = Check.level(400, 3);
        Check.due("sample 399", full.put(399, 9), 3);
        Check.due("it is that", full.at(399), 9);
        Check.due("the one ahead stays", full.at(398), 3);
        Sentences.promise(11, "BAD.");
        Check.refuses("put i", 0, 2, BAD, i -> x.put(i, 1));
        Check.refuses("put v", 0, 255, BAD, v -> x.put(1, v));
        Check.refuses("put i of 400", 0, 399, BAD, i -> full.put(i, 1));
        Check.due("on none", new EightWires().put(0, 0), BAD);
        Check.due("refused: it stays", x.at(1), 6);
        Check.due("refused: none more", x.count(0), 3);
        x.cut(2);
        Check.due("one that was cut off", x.put(2, 1), BAD);
    }

    // ---- a run

    private static void runBegins() {
        Sentences.terms("A RUN: it is in STATE 0, entered ahead of SAMPLE 0.");
        EightWires x = Check.told("state is 5 go 1 | after 1 go hit; state is 6 go hit;");
        run(x, NONE, 0, 0, 0);
        x.see(1, 5);
        // Sample 0 is looked at in state 0, and nothing was looked at ahead of it.
        run(x, NONE, 1, 1, 1);
        x.put(0, 4);
        run(x, NONE, 0, 0, 1);
        x.see(1, 4);
        run(x, 1, 8, 0, 2);
        // Each run begins anew.
        run(x, 1, 8, 0, 2);
        x.cut(1);
        run(x, NONE, 0, 0, 1);
        x.cut(0);
        run(x, NONE, 0, 0, 0);
    }

    private static void branchesGo() {
        Sentences.terms("At each SAMPLE, one behind another, BRANCHES of its STATE by order: if cond is so, the BRANCH has come"
                + " once more since the STATE was entered; if that is as often as times, it goes: to HIT (the RUN ends: the"
                + " HIT is at this SAMPLE), or a STATE (its own, too) is entered, and later BRANCHES are not looked at.");
        // The most times that can be told.
        EightWires x = Check.told("state is 1 times 99 go hit;");
        x.see(98, 1);
        run(x, NONE, 0, 0, 98);
        x.see(1, 0);
        run(x, NONE, 0, 0, 99);
        x.see(301, 1);
        run(x, 99, 8, 0, 100);
        // Entered anew, all branches count from none, its own state too; a sample takes one step alone.
        EightWires y = Check.told("state is 1 times 3 go hit | is 2 go 0;");
        Check.see(y, 1, 1, 2, 1, 1, 2, 1, 1, 1);
        run(y, 8, 8, 2, 9);
        EightWires z = Check.told("state is 1 go 1; state is 1 go 2; state is 1 go hit;");
        z.see(2, 1);
        run(z, NONE, 2, 2, 2);
        z.see(1, 1);
        run(z, 2, 8, 2, 3);
        // Later branches are not looked at where one goes, and are where one only comes.
        EightWires v = Check.told("state is 1 times 2 go 0 | is 1 times 3 go hit;");
        v.see(400, 1);
        run(v, NONE, 0, 200, 400);
        Check.tell(v, "state is 1 times 3 go 0 | is 1 times 2 go hit;");
        run(v, 1, 8, 0, 2);
        // The first that goes of several; the third is the last one.
        Check.tell(v, "state is 1 go 1 | is 1 go hit | is 1 go 0; state is 1 go hit;");
        run(v, 1, 8, 1, 2);
        Check.tell(v, "state is 2 go 0 | is 3 go 0 | is 1 go hit;");
        run(v, 0, 8, 0, 1);
        // Three that only come, and three that do not; each counts by itself.
        Check.tell(v, "state is 1 times 99 go 0 | is 1 times 98 go hit | is 1 times 99 go 0;");
        run(v, 97, 8, 0, 98);
        Check.tell(v, "state is 2 go 0 | is 3 go 0 | is 4 go hit;");
        run(v, NONE, 0, 0, 400);
        // The run ends at the hit, wherever it is.
        EightWires last = Check.told("state is 9 go hit;");
        last.see(399, 1);
        last.see(1, 9);
        run(last, 399, 8, 0, 400);
        // As often as can be.
        EightWires own = Check.told("state not 9 go 0;");
        own.see(400, 1);
        run(own, NONE, 0, 400, 400);
        // State 7 is the last one.
        EightWires far = Check.told("state is 1 go 7;" + "state is 0 go hit;".repeat(6) + "state is 1 go 7 | is 2 go hit;");
        Check.see(far, 1, 0, 1, 2);
        run(far, 3, 8, 2, 4);
        // The last branch of the last state goes, too.
        Check.tell(far, "state is 1 go 7;" + "state is 0 go hit;".repeat(6) + "state is 9 go 0 | is 8 go 0 | is 1 times 2 go hit;");
        Check.see(far, 1, 1);
        run(far, 4, 8, 1, 5);
    }

    private static void after() {
        Sentences.terms("after n: n or more SAMPLES were looked at in the STATE ahead of this one since it was entered.");
        EightWires x = Check.told("state after 1 go hit;");
        x.see(1, 0);
        run(x, NONE, 0, 0, 1);
        x.see(399, 0);
        run(x, 1, 8, 0, 2);
        Check.tell(x, "state after 399 go hit;");
        run(x, 399, 8, 0, 400);
        Check.tell(x, "state after 400 go hit;");
        run(x, NONE, 0, 0, 400);
        Check.tell(x, "state after 999 go hit;");
        run(x, NONE, 0, 0, 400);
        // n or more.
        Check.tell(x, "state after 3 & is 1 go hit;");
        x.put(2, 1);
        run(x, NONE, 0, 0, 400);
        x.put(300, 1);
        run(x, 300, 8, 0, 301);
        x.put(3, 1);
        run(x, 3, 8, 0, 4);
        // The sample by which a state is entered was looked at in the one ahead; its own state is entered anew.
        EightWires y = Check.told("state is 1 go 1; state after 1 go hit;");
        Check.see(y, 0, 0, 1, 0, 0);
        run(y, 4, 8, 1, 5);
        Check.tell(y, "state is 1 go 0 | after 3 go hit;");
        run(y, NONE, 0, 1, 5);
        y.see(1, 0);
        run(y, NONE, 0, 1, 6);
        y.see(1, 0);
        run(y, 6, 8, 1, 7);
        // A branch that only came enters nothing.
        Check.tell(y, "state is 1 times 2 go 0 | after 3 go hit;");
        run(y, 3, 8, 0, 4);
    }

    private static void withoutStates() {
        Sentences.terms("(Without STATES: no HIT.)");
        EightWires x = Check.level(5, 1);
        for (int what : new int[] {0, 1, 2, 10, 409}) {
            Check.due("stored " + what, x.stored(what), NONE);
        }
        Check.tell(x, "depth 9; keep is 1;");
        Check.due("stored without states", x.stored(0), NONE);
        Check.tell(x, "state is 1 go hit;");
        Check.due("with a state", x.stored(0), 5);
        Check.due("an empty text", x.text(), 0);
        Check.due("without states again", x.stored(0), NONE);
        Check.due("a run then", x.run(0), STATE);
    }

    private static void stores(EightWires x, int... due) {
        Check.due("how many", x.stored(0), due.length);
        Check.due("the first", x.stored(1), due.length == 0 ? NONE : due[0]);
        Check.due("the last", x.stored(2), due.length == 0 ? NONE : due[due.length - 1]);
        for (int i = 0; i < due.length; i++) {
            Check.due("stored " + i, x.stored(10 + i), due[i]);
        }
        Check.due("one more", x.stored(10 + due.length), BAD);
    }

    /** An object that hits in one sample of several, and tells what is stored. */
    private static EightWires hits(int samples, int hit, String store) {
        EightWires x = Check.told("state is 1 go hit;" + store);
        x.see(samples, 0);
        x.put(hit, 1);
        return x;
    }

    private static void storedSamples() {
        Sentences.terms("STORED: SAMPLES from the HIT less ahead on, depth of them (such as would be ahead of SAMPLE 0 are"
                + " counted among these), as far as THE TRACE has them, of which cond of keep is so (all, if none was told;"
                + " after: from SAMPLE 0 on).");
        stores(hits(9, 4, "depth 1;"), 4);
        stores(hits(9, 4, "depth 2;"), 4, 5);
        stores(hits(9, 4, "depth 2; ahead 1;"), 3, 4);
        stores(hits(9, 4, "depth 5; ahead 4;"), 0, 1, 2, 3, 4);
        // Those that would be ahead of sample 0 are counted.
        stores(hits(9, 4, "depth 6; ahead 5;"), 0, 1, 2, 3, 4);
        stores(hits(9, 0, "depth 3; ahead 2;"), 0);
        stores(hits(9, 0, "depth 400; ahead 399;"), 0);
        stores(hits(9, 1, "depth 400; ahead 398;"), 0, 1, 2);
        // As far as the trace has them.
        stores(hits(9, 8, "depth 400;"), 8);
        stores(hits(9, 7, "depth 3;"), 7, 8);
        stores(hits(9, 7, "depth 2;"), 7, 8);
        stores(hits(9, 7, "depth 1;"), 7);
        // Depth is 100 and ahead is 0, if they were not told.
        EightWires plain = hits(300, 50, "");
        Check.due("100 of them", plain.stored(0), 100);
        Check.due("from the hit on", plain.stored(1), 50);
        Check.due("to the 100th", plain.stored(2), 149);
        // All that can be.
        EightWires all = hits(400, 399, "depth 400; ahead 399;");
        Check.due("all", all.stored(0), 400);
        Check.due("the first", all.stored(1), 0);
        Check.due("the last", all.stored(2), 399);
        Check.due("the 400th", all.stored(409), 399);
        EightWires first = hits(400, 0, "depth 400;");
        Check.due("all from the first on", first.stored(0), 400);
        // By keep: the hit itself too; none at all.
        stores(hits(9, 4, "depth 5; ahead 2; keep is 0;"), 2, 3, 5, 6);
        stores(hits(9, 4, "depth 5; ahead 2; keep is 1;"), 4);
        stores(hits(9, 4, "depth 5; ahead 2; keep is 2;"));
        stores(hits(9, 4, "depth 5; ahead 2; keep fall 0;"), 5);
        // The sample ahead of the window is looked at for a rise.
        stores(hits(9, 4, "depth 5; keep rise 0;"), 4);
        stores(hits(9, 4, "depth 5; ahead 2; keep after 4;"), 4, 5, 6);
        stores(hits(9, 4, "depth 5; ahead 2; keep after 2;"), 2, 3, 4, 5, 6);
        stores(hits(9, 4, "depth 5; ahead 2; keep after 7;"));
        stores(hits(9, 4, "depth 400; ahead 4; keep after 8;"), 8);
        stores(hits(9, 0, "depth 2; keep after 1;"), 1);
    }

    // ---- promises 12 to 15

    private static void run() {
        Sentences.promise(12, "A RUN: 0 the SAMPLE of the HIT (NONE), 1 the STATE at its end (8: HIT), 2 how often a STATE was"
                + " entered (but the first time; HIT is none), 3 SAMPLES looked at.");
        EightWires x = Check.told("state is 1 go hit | is 2 go 1; state is 2 go 0;");
        run(x, NONE, 0, 0, 0);
        x.see(1, 1);
        run(x, 0, 8, 0, 1);
        x.put(0, 2);
        run(x, NONE, 1, 1, 1);
        x.see(398, 2);
        run(x, NONE, 1, 399, 399);
        x.see(1, 2);
        run(x, NONE, 0, 400, 400);
        x.cut(1);
        Check.see(x, 2, 1, 1);
        run(x, 2, 8, 2, 3);
    }

    private static void runRefused() {
        Sentences.promise(12, "BAD; STATE: there are no STATES.");
        EightWires x = Check.told("state is 1 go hit;");
        EightWires none = Check.told("depth 3; keep is 1;");
        EightWires fresh = new EightWires();
        Check.refuses("run with a state", 0, 3, BAD, x::run);
        Check.refuses("run without states", 0, 3, BAD, none::run);
        Check.refuses("run of a new object", 0, 3, BAD, fresh::run);
        for (int what = 0; what < 4; what++) {
            Check.due("run without states", none.run(what), STATE);
            Check.due("run of a new object", fresh.run(what), STATE);
        }
    }

    private static void state() {
        Sentences.promise(13, "The STATE behind SAMPLE i in a RUN (8: HIT, from the HIT on).");
        EightWires x = Check.told("state is 1 go 1; state is 2 go hit;");
        x.see(1, 1);
        x.see(397, 0);
        x.see(1, 2);
        x.see(1, 0);
        Check.due("behind sample 0", x.state(0), 1);
        Check.due("ahead of the hit", x.state(397), 1);
        Check.due("at the hit", x.state(398), 8);
        Check.due("behind the hit", x.state(399), 8);
        x.put(0, 0);
        Check.due("not yet entered", x.state(0), 0);
        Check.due("at the end", x.state(399), 0);
        EightWires y = Check.told("state is 1 go hit;");
        y.see(3, 1);
        for (int i = 0; i < 3; i++) {
            Check.due("a hit in sample 0", y.state(i), 8);
        }
    }

    private static void stateRefused() {
        Sentences.promise(13, "BAD; STATE: there are no STATES.");
        EightWires x = Check.told("state is 1 go hit;");
        Check.due("no sample", x.state(0), BAD);
        x.see(3, 0);
        Check.refuses("state of 3", 0, 2, BAD, x::state);
        EightWires y = new EightWires();
        Check.due("no sample, no states", y.state(0), BAD);
        y.see(3, 0);
        Check.refuses("state of 3 without states", 0, 2, BAD, y::state);
        for (int i = 0; i < 3; i++) {
            Check.due("no states", y.state(i), STATE);
        }
        y.see(397, 0);
        Check.due("no states, sample 399", y.state(399), STATE);
        Check.due("no sample 400", y.state(400), BAD);
    }

    private static void stored() {
        Sentences.promise(14, "STORED: how many (what 0), the first SAMPLE (1; NONE), the last one (2; NONE); 10 and i (0 to"
                + " 399): the i-th (its number).");
        EightWires x = hits(400, 399, "depth 400; ahead 399;");
        for (int i = 0; i < 400; i += 21) {
            Check.due("stored " + i, x.stored(10 + i), i);
        }
        Check.due("the 399th", x.stored(409), 399);
        EightWires one = hits(400, 399, "depth 400;");
        Check.due("one", one.stored(0), 1);
        Check.due("it is the first", one.stored(1), 399);
        Check.due("and the last", one.stored(2), 399);
        Check.due("and number 0", one.stored(10), 399);
        // A hit of which nothing is kept.
        EightWires none = hits(9, 4, "keep is 7;");
        Check.due("none", none.stored(0), 0);
        Check.due("no first", none.stored(1), NONE);
        Check.due("no last", none.stored(2), NONE);
    }

    private static void storedRefused() {
        Sentences.promise(14, "BAD: what; NONE: no HIT; then BAD: there is no such one.");
        EightWires x = hits(9, 4, "depth 3;");
        EightWires none = hits(9, 4, "keep is 7;");
        EightWires never = hits(9, 4, "");
        never.put(4, 0);
        EightWires fresh = new EightWires();
        for (EightWires y : new EightWires[] {x, none, never, fresh}) {
            Check.refuses("stored", 0, 409, BAD, y::stored);
            for (int what = 3; what < 10; what++) {
                Check.due("stored " + what, y.stored(what), BAD);
            }
        }
        for (int what : new int[] {0, 1, 2, 10, 11, 409}) {
            Check.due("no hit: stored " + what, never.stored(what), NONE);
            Check.due("a new object: stored " + what, fresh.stored(what), NONE);
        }
        Check.due("the last that there is", x.stored(12), 6);
        for (int what : new int[] {13, 14, 409}) {
            Check.due("there is no such one: " + what, x.stored(what), BAD);
        }
        for (int what : new int[] {10, 11, 409}) {
            Check.due("none is stored: " + what, none.stored(what), BAD);
        }
    }

    private static void next() {
        Sentences.promise(15, "The first SAMPLE, from SAMPLE i on (it too), of which cond of keep is so.");
        EightWires x = Check.told("keep is 1;");
        x.see(1, 1);
        x.see(398, 0);
        x.see(1, 1);
        Check.due("it too", x.next(0), 0);
        Check.due("the last", x.next(1), 399);
        Check.due("the last itself", x.next(399), 399);
        EightWires all = Check.level(400, 0);
        Check.due("none was told: sample 0", all.next(0), 0);
        Check.due("none was told: sample 399", all.next(399), 399);
        Check.tell(x, "keep after 399;");
        Check.due("after, from sample 0 on", x.next(0), 399);
        Check.tell(x, "keep after 1;");
        Check.due("after 1", x.next(0), 1);
        Sentences.promise(15, "BAD (there is no SAMPLE i, too);");
        EightWires none = new EightWires();
        Check.due("no sample at all", none.next(0), BAD);
        Check.refuses("next of none", 0, -1, BAD, none::next);
        Check.refuses("next of 400", 0, 399, BAD, x::next);
        EightWires three = Check.told("keep is 1;");
        three.see(3, 0);
        Check.refuses("next of 3", 0, 2, BAD, three::next);
        Sentences.promise(15, "NONE: none is so.");
        Check.due("none is so", three.next(0), NONE);
        Check.due("none is so, the last", three.next(2), NONE);
        three.put(0, 1);
        Check.due("one ahead does not count", three.next(1), NONE);
        Check.tell(x, "keep after 400;");
        Check.due("after 400", x.next(0), NONE);
        Check.tell(x, "keep is 1 & is 0;");
        Check.due("what can not be", x.next(0), NONE);
    }
}
