/** Promises 12 to 15: run, state, stored, next. */
final class RunTest {
    private RunTest() {
    }

    static void all() {
        refused();
        terms();
        branchesByOrder();
        times();
        after();
        ownState();
        states();
        storedWindow();
        storedByKeep();
        next();
    }

    private static void hit(String text, int due, int... samples) {
        EightWires x = Check.told(text);
        Check.see(x, samples);
        Check.due("hit of '" + text + "'", x.run(0), due);
    }

    private static void run(EightWires x, int hit, int state, int entered, int looked) {
        Check.due("run(0)", x.run(0), hit);
        Check.due("run(1)", x.run(1), state);
        Check.due("run(2)", x.run(2), entered);
        Check.due("run(3)", x.run(3), looked);
    }

    private static void refused() {
        EightWires x = new EightWires();
        Check.due("run without states", x.run(0), EightWires.STATE);
        Check.due("run(4) without states", x.run(4), EightWires.BAD);
        Check.due("state without samples", x.state(0), EightWires.BAD);
        x.see(1, 0);
        Check.due("state without states", x.state(0), EightWires.STATE);
        Check.due("stored without states", x.stored(0), EightWires.NONE);
        Check.due("stored(3) without states", x.stored(3), EightWires.BAD);
        Check.tell(x, "state high 0 go hit;");
        Check.due("run(-1)", x.run(-1), EightWires.BAD);
        Check.due("run(4)", x.run(4), EightWires.BAD);
        Check.due("state(-1)", x.state(-1), EightWires.BAD);
        Check.due("state(1)", x.state(1), EightWires.BAD);
        Check.due("state(0)", x.state(0), 0);
        x.cut(0);
        run(x, EightWires.NONE, 0, 0, 0);
    }

    private static void terms() {
        hit("state high 1 go hit;", 2, 0, 1, 2, 3);
        hit("state low 0 go hit;", 1, 1, 2);
        hit("state rise 0 go hit;", 2, 1, 0, 1);
        hit("state rise 0 go hit;", EightWires.NONE, 1, 1, 0);
        hit("state fall 0 go hit;", 2, 0, 1, 0);
        hit("state fall 7 go hit;", 1, 255, 127);
        hit("state fall 0 go hit;", EightWires.NONE, 0, 0, 1);
        hit("state is 5 go hit;", 2, 4, 7, 5);
        hit("state not 5 go hit;", 1, 5, 4);
        hit("state high 0 & low 1 go hit;", 3, 0, 3, 2, 1);
        hit("state high 0 & low 1 & not 1 go hit;", 2, 3, 1, 5);
        hit("state after 2 go hit;", 2, 0, 0, 0, 0);
        hit("state after 3 go hit;", EightWires.NONE, 0, 0, 0);
    }

    private static void branchesByOrder() {
        EightWires x = Check.told("state is 1 go 1 | is 1 go hit; state is 1 go hit;");
        Check.see(x, 1, 1);
        run(x, 1, 8, 1, 2);
        Check.tell(x, "state is 2 go 1 | is 1 go hit; state is 1 go 0;");
        run(x, 0, 8, 0, 1);
        // the first has not come often enough: the later one is looked at
        Check.tell(x, "state is 1 times 2 go 0 | is 1 go hit;");
        run(x, 0, 8, 0, 1);
        // both count; the first one goes ahead
        Check.tell(x, "state is 1 times 2 go 1 | is 1 times 2 go hit; state is 9 go hit;");
        run(x, EightWires.NONE, 1, 1, 2);
    }

    private static void times() {
        hit("state is 1 times 3 go hit;", 4, 1, 0, 1, 0, 1, 1);
        hit("state is 1 times 4 go hit;", EightWires.NONE, 1, 0, 1, 0, 1);
        // entering a state counts anew: of branch 0 too, which was not the one that went
        EightWires x = Check.told("state is 1 times 3 go hit | is 2 go 0;");
        Check.see(x, 1, 1, 2, 1, 1, 1, 1);
        run(x, 5, 8, 1, 6);
    }

    private static void after() {
        // the sample that enters belongs to the state before
        EightWires x = Check.told("state is 1 go 1; state after 1 go hit;");
        Check.see(x, 0, 1, 0, 0, 0);
        run(x, 3, 8, 1, 4);
        Check.tell(x, "state is 1 go 1; state after 2 & is 0 go hit;");
        run(x, 4, 8, 1, 5);
        // its own state is entered anew
        Check.tell(x, "state is 1 go 0 | after 3 go hit;");
        run(x, EightWires.NONE, 0, 1, 5);
        x.see(1, 0);
        run(x, 5, 8, 1, 6);
    }

    private static void ownState() {
        EightWires x = Check.told("state after 1 go 0 | is 9 go 0;");
        Check.see(x, 0, 0, 0, 0, 0);
        run(x, EightWires.NONE, 0, 2, 5);
        Check.see(x, 9, 9);
        run(x, EightWires.NONE, 0, 4, 7);
    }

    private static void states() {
        EightWires x = Check.told("state is 1 go 2; state is 2 go hit; state is 3 go 1;");
        Check.see(x, 0, 1, 1, 3, 0, 2, 5);
        int[] due = {0, 2, 2, 1, 1, 8, 8};
        for (int i = 0; i < due.length; i++) {
            Check.due("state " + i, x.state(i), due[i]);
        }
        run(x, 5, 8, 2, 6);
        x.cut(5);
        run(x, EightWires.NONE, 1, 2, 5);
        Check.due("state at the end", x.state(4), 1);
        Check.due("state behind the end", x.state(5), EightWires.BAD);
    }

    private static void storedWindow() {
        EightWires x = Check.told("state is 1 go hit; depth 4; ahead 2;");
        Check.see(x, 0, 0, 0, 1, 0, 0, 0);
        stored(x, 1, 2, 3, 4);
        Check.due("stored(14)", x.stored(14), EightWires.BAD);
        Check.due("stored(409)", x.stored(409), EightWires.BAD);
        for (int what : new int[] {-1, 3, 9, 410, Integer.MAX_VALUE, Integer.MIN_VALUE}) {
            Check.due("stored " + what, x.stored(what), EightWires.BAD);
        }
        // what would be ahead of sample 0 is counted among the depth
        x.put(0, 1);
        stored(x, 0, 1);
        x.put(0, 0);
        x.put(1, 1);
        stored(x, 0, 1, 2);
        x.put(1, 0);
        x.cut(4);
        stored(x, 1, 2, 3);
        x.put(3, 0);
        Check.due("no hit: how many", x.stored(0), EightWires.NONE);
        Check.due("no hit: one", x.stored(10), EightWires.NONE);
        Check.due("no hit: what", x.stored(410), EightWires.BAD);
        Check.tell(x, "state is 0 go hit; depth 1;");
        stored(x, 0);
    }

    private static void stored(EightWires x, int... due) {
        Check.due("stored(0)", x.stored(0), due.length);
        Check.due("stored(1)", x.stored(1), due.length == 0 ? EightWires.NONE : due[0]);
        Check.due("stored(2)", x.stored(2), due.length == 0 ? EightWires.NONE : due[due.length - 1]);
        for (int i = 0; i < due.length; i++) {
            Check.due("stored(10 and " + i + ")", x.stored(10 + i), due[i]);
        }
        Check.due("stored behind", x.stored(10 + due.length), EightWires.BAD);
    }

    private static void storedByKeep() {
        EightWires x = Check.told("state is 1 go hit; depth 5; ahead 2; keep rise 1;");
        Check.see(x, 0, 2, 0, 1, 2, 2, 0, 2);
        stored(x, 1, 4);
        Check.tell(x, "state is 1 go hit; depth 5; ahead 2; keep is 9;");
        stored(x);
        // after: from sample 0 on, whatever the run did
        Check.tell(x, "state is 1 go hit; depth 5; ahead 2; keep after 3;");
        stored(x, 3, 4, 5);
        Check.tell(x, "state is 1 go hit; depth 400; ahead 3; keep high 1 & after 2;");
        stored(x, 4, 5, 7);
    }

    private static void next() {
        EightWires x = new EightWires();
        Check.due("next of none", x.next(0), EightWires.BAD);
        Check.see(x, 1, 0, 1, 1, 0);
        Check.due("no keep", x.next(3), 3);
        Check.due("next(-1)", x.next(-1), EightWires.BAD);
        Check.due("next(5)", x.next(5), EightWires.BAD);
        Check.tell(x, "keep high 0;");
        Check.due("next itself", x.next(0), 0);
        Check.due("next behind", x.next(1), 2);
        Check.due("next the last", x.next(4), EightWires.NONE);
        Check.tell(x, "keep fall 0;");
        Check.due("next fall", x.next(0), 1);
        Check.due("next fall behind", x.next(2), 4);
        Check.tell(x, "keep after 3;");
        Check.due("next after", x.next(0), 3);
        Check.due("next after itself", x.next(4), 4);
        Check.due("next needs no states", x.rule(0), 0);
    }
}
