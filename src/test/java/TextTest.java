/** Promises 1 to 7: a new object; feed, end, text, fault, rule, branch. */
final class TextTest {
    private TextTest() {
    }

    static void all() {
        newObject();
        feed();
        end();
        taken();
        ruleAndBranch();
        blanks();
        tokenFaults();
        placeFaults();
        boundFaults();
        twiceFaults();
        tooManyFaults();
        fittingFaults();
        firstFault();
        faultKeeps();
        textReplaces();
    }

    private static void newObject() {
        EightWires x = new EightWires();
        Check.due("new: states", x.rule(0), 0);
        Check.due("new: depth", x.rule(1), 100);
        Check.due("new: ahead", x.rule(2), 0);
        Check.due("new: keep", x.rule(3), 0);
        Check.due("new: samples", x.count(0), 0);
        Check.due("new: images", x.count(1), 0);
        Check.due("new: bytes", x.count(2), 0);
        Check.due("new: cells", x.count(3), EightWires.NONE);
        Check.due("new: fault", x.fault(), 0);
        Check.due("new: torn", x.torn(), 0);
        for (int k = 0; k < 4; k++) {
            Check.due("new: sheet of nothing", x.lay(k, 0, 0), -11);
        }
        Check.due("new: no image 0", x.back(0), EightWires.STATE);
        Check.due("new: no image 1", x.back(1), EightWires.STATE);
        Check.due("new: no sample", x.at(0), EightWires.BAD);
    }

    private static void feed() {
        EightWires x = new EightWires();
        for (int i = 1; i <= 50; i++) {
            Check.due("feed", x.feed(i), 8 * i);
        }
        Check.due("feed on 400", x.feed(0), EightWires.FULL);
        Check.due("a full tape stays", x.count(2), 400);
        x.end(393);
        Check.due("feed on 393", x.feed(0), EightWires.FULL);
        x.end(392);
        Check.due("feed on 392", x.feed(0), 400);
        // depth 7; the highest byte first, and a byte above 127 is no token
        EightWires y = new EightWires();
        y.feed(0x646570746820373BL);
        Check.due("highest first", y.text(), 1);
        Check.due("highest first: depth", y.rule(1), 7);
        y.feed(0x646570746820B73BL);
        Check.due("a byte above 127", y.text(), -16);
        Check.due("a byte above 127: fault", y.fault(), 1);
        y.feed(-1L);
        Check.due("a tape of 255", y.text(), -10);
    }

    private static void end() {
        EightWires x = new EightWires();
        Check.due("end(0) of none", x.end(0), 0);
        Check.due("end(1) of none", x.end(1), EightWires.BAD);
        x.feed(0);
        Check.due("end below 0", x.end(-1), EightWires.BAD);
        Check.due("end above", x.end(9), EightWires.BAD);
        Check.due("end far above", x.end(Integer.MAX_VALUE), EightWires.BAD);
        Check.due("end refused", x.count(2), 8);
        Check.due("end of all", x.end(8), 8);
        Check.due("end(3)", x.end(3), 8);
        Check.due("end(3) again", x.end(3), 3);
        Check.due("feed behind the end", x.feed(0), 11);
    }

    private static void taken() {
        Check.lines("", 0);
        Check.lines("     ", 0);
        Check.lines("depth 1;", 1);
        Check.lines("depth 400;ahead 399;", 2);
        Check.lines("ahead 0;", 1);
        Check.lines("ahead 99;", 1);
        Check.lines("keep high 0;", 1);
        Check.lines("keep high 7 & is 255 & after 999;", 1);
        Check.lines("state high 0 go hit;", 1);
        Check.lines("state high 0 times 99 go 0;", 1);
        Check.lines("state is 0 go 1; depth 5; state not 255 go 0 | low 7 go hit | rise 3 times 1 go 1; ahead 4;", 4);
        Check.lines("state after 1 go 7;" + "state after 1 go hit;".repeat(7), 8);
        Check.lines("depth 007;", 1);
    }

    private static void ruleAndBranch() {
        EightWires x = Check.told("depth 17; keep low 3 & fall 2; ahead 16;"
                + "state high 1 & rise 2 & is 200 times 7 go 1 | not 0 go hit;"
                + "state low 6 go 0 | fall 5 & after 999 times 99 go 1 | after 1 go hit;");
        Check.due("states", x.rule(0), 2);
        Check.due("depth", x.rule(1), 17);
        Check.due("ahead", x.rule(2), 16);
        Check.due("keep", x.rule(3), 2);
        Check.due("branches of 0", x.rule(10), 2);
        Check.due("branches of 1", x.rule(11), 3);
        for (int what : new int[] {-1, 4, 9, 12, 17, 18, 20, Integer.MAX_VALUE, Integer.MIN_VALUE}) {
            Check.due("rule " + what, x.rule(what), EightWires.BAD);
        }
        branch(x, 0, 0, 7, 1, 0, 1, 2, 2, 4, 200);
        branch(x, 0, 1, 1, 8, 5, 0);
        branch(x, 1, 0, 1, 0, 1, 6);
        branch(x, 1, 1, 99, 1, 3, 5, 6, 999);
        branch(x, 1, 2, 1, 8, 6, 1);
        int[][] none = {{0, 2}, {2, 0}, {1, 3}, {-1, 0}, {0, -1}, {8, 0}, {Integer.MAX_VALUE, 0},
            {0, Integer.MAX_VALUE}, {Integer.MIN_VALUE, 0}};
        for (int[] sb : none) {
            Check.due("no branch " + sb[0] + " " + sb[1], x.branch(sb[0], sb[1], 0), EightWires.BAD);
        }
        Check.due("branch of a new one", new EightWires().branch(0, 0, 0), EightWires.BAD);
        Check.due("rule 10 of a new one", new EightWires().rule(10), EightWires.BAD);
    }

    /** Of a branch: times, to, then kind and number of each term. */
    private static void branch(EightWires x, int s, int b, int... due) {
        String name = "branch " + s + " " + b + " ";
        int terms = (due.length - 2) / 2;
        Check.due(name + "terms", x.branch(s, b, 0), terms);
        Check.due(name + "times", x.branch(s, b, 1), due[0]);
        Check.due(name + "to", x.branch(s, b, 2), due[1]);
        for (int i = 0; i < terms; i++) {
            Check.due(name + "kind " + i, x.branch(s, b, 10 + i), due[2 + 2 * i]);
            Check.due(name + "number " + i, x.branch(s, b, 20 + i), due[3 + 2 * i]);
        }
        for (int what : new int[] {-1, 3, 9, 10 + terms, 19, 20 + terms, 30, Integer.MIN_VALUE}) {
            Check.due(name + what, x.branch(s, b, what), EightWires.BAD);
        }
    }

    private static void blanks() {
        Check.lines("  depth   5  ;   ahead 4 ; ", 2);
        Check.lines("depth5;ahead4;", 2);
        Check.lines("state high0&low1times2go0|rise3go hit;", 1);
        Check.faulty("state high0&low1times2go0|rise3gohit;", 2, 31);
        Check.faulty("statehigh 0 go hit;", 2, 0);
        Check.faulty("depth\t5;", 1, 5);
        Check.faulty("depth 5;\n", 1, 8);
        Check.faulty("dep th 5;", 2, 0);
    }

    private static void tokenFaults() {
        Check.faulty(".", 1, 0);
        Check.faulty("  .", 1, 2);
        Check.faulty("depth 5.", 1, 7);
        Check.faulty("1234", 1, 0);
        Check.faulty("depth 1234;", 1, 6);
        Check.faulty("depth 0005;", 1, 6);
        Check.faulty("Depth 5;", 1, 0);
        Check.faulty("state high 0 go hit;,", 1, 20);
        Check.faulty("depth -5;", 1, 6);
        Check.faulty("state `", 1, 6);
        Check.faulty("state {", 1, 6);
        Check.faulty("depth /", 1, 6);
        Check.faulty("depth :", 1, 6);
        Check.faulty("state high 0 go hit; 12345", 1, 21);
    }

    private static void placeFaults() {
        Check.faulty("5", 2, 0);
        Check.faulty(";", 2, 0);
        Check.faulty("  & ", 2, 2);
        Check.faulty("high 0;", 2, 0);
        Check.faulty("states high 0 go hit;", 2, 0);
        Check.faulty("stat high 0 go hit;", 2, 0);
        Check.faulty("z", 2, 0);
        Check.faulty("a 1;", 2, 0);
        for (String name : new String[] {"xtate", "xeep", "xepth", "xhead", "statx", "keex", "deptx", "aheax", "state0x"}) {
            Check.faulty(name + " low 0 go hit;", 2, name.equals("state0x") ? 5 : 0);
        }
        for (String name : new String[] {"xigh", "xow", "xise", "xall", "xs", "xot", "xfter", "higx", "times", "go", "hit"}) {
            Check.faulty("keep " + name + " 1;", 2, 5);
        }
        Check.faulty("state low 0 ximes 1 go hit;", 2, 12);
        Check.faulty("state low 0 xo hit;", 2, 12);
        Check.faulty("state low 0 go xit;", 2, 15);
        Check.faulty("state", 2, 5);
        Check.faulty("state   ", 2, 8);
        Check.faulty("state go", 2, 6);
        Check.faulty("state highs 0", 2, 6);
        Check.faulty("state high", 2, 10);
        Check.faulty("state high low", 2, 11);
        Check.faulty("state high;", 2, 10);
        Check.faulty("state high 0", 2, 12);
        Check.faulty("state high 0;", 2, 12);
        Check.faulty("state high 0 | ", 2, 13);
        Check.faulty("state high 0 &", 2, 14);
        Check.faulty("state high 0 & 1", 2, 15);
        Check.faulty("state high 0 times", 2, 18);
        Check.faulty("state high 0 times go", 2, 19);
        Check.faulty("state high 0 times 1 times 2", 2, 21);
        Check.faulty("state high 0 times 1 & low 1", 2, 21);
        Check.faulty("state high 0 go", 2, 15);
        Check.faulty("state high 0 go ;", 2, 16);
        Check.faulty("state high 0 go hits;", 2, 16);
        Check.faulty("state high 0 go hit", 2, 19);
        Check.faulty("state high 0 go hit |", 2, 21);
        Check.faulty("state high 0 go hit | ;", 2, 22);
        Check.faulty("state high 0 go hit & low 0", 2, 20);
        Check.faulty("state high 0 go 1 2;", 2, 18);
        Check.faulty("state ;", 2, 6);
        Check.faulty("keep;", 2, 4);
        Check.faulty("keep high 0", 2, 11);
        Check.faulty("keep high 0 go hit;", 2, 12);
        Check.faulty("keep high 0 times 2;", 2, 12);
        Check.faulty("keep high 0 | low 1;", 2, 12);
        Check.faulty("depth;", 2, 5);
        Check.faulty("depth 5", 2, 7);
        Check.faulty("depth 5   ", 2, 10);
        Check.faulty("depth 5 5;", 2, 8);
        Check.faulty("ahead hit;", 2, 6);
        Check.faulty("ahead 1 &", 2, 8);
        Check.faulty("depth 5;;", 2, 8);
    }

    private static void boundFaults() {
        for (String name : new String[] {"high", "low ", "rise", "fall"}) {
            Check.lines("keep " + name + " 7;", 1);
            Check.faulty("keep " + name + " 8;", 3, 10);
        }
        Check.lines("keep is 255;", 1);
        Check.faulty("keep is 256;", 3, 8);
        Check.lines("keep not 0;", 1);
        Check.faulty("keep not 256;", 3, 9);
        Check.faulty("keep after 0;", 3, 11);
        Check.lines("keep after 999;", 1);
        Check.faulty("state low 0 times 0 go hit;", 3, 18);
        Check.faulty("state low 0 times 100 go hit;", 3, 18);
        Check.lines("state low 0 times 99 go hit;", 1);
        Check.faulty("state low 0 go 8;", 3, 15);
        Check.faulty("depth 0;", 3, 6);
        Check.faulty("depth 401;", 3, 6);
        Check.faulty("depth 400; ahead 400;", 3, 17);
    }

    private static void twiceFaults() {
        Check.faulty("keep low 0; keep high 1;", 4, 12);
        Check.faulty("depth 3; keep low 0; depth 3;", 4, 21);
        Check.faulty("ahead 3; ahead .", 4, 9);
        Check.faulty("depth 100; depth", 4, 11);
        Check.faulty("keep low 0; state low 0 go hit;  keep", 4, 33);
    }

    private static void tooManyFaults() {
        String eight = "state low 0 go hit;".repeat(8);
        Check.lines(eight, 8);
        Check.faulty(eight + "state low 0 go hit;", 5, 152);
        Check.faulty(eight + " state .", 5, 153);
        Check.faulty(eight + "depth 5; state", 5, 161);
        String three = "state low 0 go hit|low 1 go hit|low 2 go hit";
        Check.lines(three + ";", 1);
        Check.faulty(three + " | low 3 go hit;", 5, 45);
        Check.faulty(three + "|.", 5, 44);
        Check.lines("keep low 0 & low 1 & low 2;", 1);
        Check.faulty("keep low 0 & low 1 & low 2 & low 3;", 5, 27);
        Check.faulty("keep low 0 & low 1 & low 2 &", 5, 27);
        Check.faulty("state low 0 & low 1 & low 2 & .", 5, 28);
        // the second branch may have three terms of its own
        Check.lines("state low 0 & low 1 & low 2 go hit | low 0 & low 1 & low 2 go hit;", 1);
    }

    private static void fittingFaults() {
        Check.faulty("state low 0 go 1;", 6, 17);
        Check.faulty("state low 0 go 1;  ", 6, 19);
        Check.lines("state low 0 go 1; state low 0 go 0;", 2);
        Check.faulty("state low 0 go 0; state low 0 go 1 | low 1 go 2;", 6, 48);
        Check.faulty("ahead 100;", 6, 10);
        Check.lines("ahead 100; depth 101;", 2);
        Check.faulty("ahead 5; depth 5;", 6, 17);
        Check.faulty("depth 4; ahead 5;", 6, 17);
        Check.lines("depth 1; ahead 0;", 2);
        Check.faulty("state low 0 go 7; ahead 200;", 6, 28);
    }

    private static void firstFault() {
        Check.faulty("depth 0 .", 3, 6);
        Check.faulty("depth 0", 3, 6);
        Check.faulty("state low 9 . ", 3, 10);
        Check.faulty("state low 0 go 5; .", 1, 18);
        Check.faulty("state low 0 go 5; keep", 2, 22);
        Check.faulty("ahead 300; ahead 2;", 4, 11);
        Check.faulty("dept 4; depth 0;", 2, 0);
    }

    private static void faultKeeps() {
        EightWires x = Check.told("depth 9; ahead 8; keep high 1; state low 2 go hit;");
        Check.see(x, 1, 2, 3);
        String late = "depth 3; ahead 1; keep low 0 & low 1; state low 3 go 0; state low 4 go .";
        Check.tape(x, late);
        Check.due("a fault late", x.text(), -10 - late.indexOf('.'));
        Check.due("its fault", x.fault(), 1);
        Check.due("depth stays", x.rule(1), 9);
        Check.due("ahead stays", x.rule(2), 8);
        Check.due("keep stays", x.rule(3), 1);
        Check.due("states stay", x.rule(0), 1);
        Check.due("a branch stays", x.branch(0, 0, 20), 2);
        Check.due("to stays", x.branch(0, 0, 2), 8);
        Check.due("the trace stays", x.count(0), 3);
        Check.tape(x, "depth 10;");
        Check.due("a text behind a fault", x.text(), 1);
        Check.due("no fault then", x.fault(), 0);
    }

    private static void textReplaces() {
        EightWires x = Check.told("depth 9; ahead 8; keep high 1; state low 2 go hit | low 1 go 0; state low 1 go 0;");
        Check.see(x, 1, 2, 3);
        x.keep(1);
        x.sheet(0, 2, 5);
        Check.tell(x, "state high 3 go hit;");
        Check.due("depth is as at first", x.rule(1), 100);
        Check.due("ahead is as at first", x.rule(2), 0);
        Check.due("keep is as at first", x.rule(3), 0);
        Check.due("states are new", x.rule(0), 1);
        Check.due("branches are new", x.rule(10), 1);
        Check.due("the trace stays", x.count(0), 3);
        Check.due("images stay", x.count(1), 1);
        Check.due("sheets stay", x.count(3), 5);
        // what the first text told is gone for good
        Check.due("an empty text", x.text(), 0);
        Check.due("tells no states", x.rule(0), 0);
        Check.due("tells no depth", x.rule(1), 100);
        Check.due("tells no ahead", x.rule(2), 0);
        Check.due("tells no keep", x.rule(3), 0);
    }
}
