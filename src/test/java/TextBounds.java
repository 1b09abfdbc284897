import java.util.List;

/** Boundary cases of the tape and its texts: 'Terms', part 1, and promises 1 to 7. A method for each sentence. */
final class TextBounds {
    private static final int BAD = EightWires.BAD;
    private static final int FULL = EightWires.FULL;
    private static final int NONE = EightWires.NONE;
    private static final int STATE = EightWires.STATE;
    private static final String BLANKS = " ".repeat(8);

    private static final List<String> TERMS = List.of("high", "low", "rise", "fall", "is", "not", "after");
    private static final List<String> TOKENS = List.of("state", "keep", "depth", "ahead", "times", "go", "hit", "high",
            "low", "rise", "fall", "is", "not", "after", "x", "states", "1", ";", "|", "&", "");
    // What may stand where a line may begin: a line, or the end.
    private static final List<String> LINES = List.of("state", "keep", "depth", "ahead", "");

    private TextBounds() {
    }

    static void all() {
        newObject();
        feed();
        feedFull();
        end();
        endBad();
        tapePlaces();
        tokensAndBlanks();
        bytesThatAreTokens();
        emptyText();
        lineGrammar();
        branchGrammar();
        condGrammar();
        toGrammar();
        termGrammar();
        wireBounds();
        sampleBounds();
        afterBounds();
        timesBounds();
        toBounds();
        depthBounds();
        aheadBounds();
        mostOfAll();
        firstFault();
        noToken();
        notThere();
        outOfBounds();
        secondTime();
        tooMany();
        notFitting();
        inPlaceOf();
        text();
        fault();
        rule();
        branch();
        Sentences.end();
    }

    // ---- promises 1 to 3

    private static void newObject() {
        Sentences.promise(1, "As told at first; no SAMPLES; SHEETS of nothing.");
        // What another object holds is not its own.
        Portrait.rich();
        Portrait.full();
        EightWires x = new EightWires();
        int[] rules = {0, 100, 0, 0};
        int[] counts = {0, 0, 0, NONE};
        for (int what = 0; what < 4; what++) {
            Check.due("rule " + what, x.rule(what), rules[what]);
            Check.due("count " + what, x.count(what), counts[what]);
            Check.due("run " + what, x.run(what), STATE);
            Check.due("sheet " + what, x.lay(what, 0, 0), -11);
        }
        Check.due("branches of state 0", x.rule(10), BAD);
        Check.due("fault", x.fault(), 0);
        Check.due("torn", x.torn(), 0);
        Check.due("image 0", x.back(0), STATE);
        Check.due("image 1", x.back(1), STATE);
        Check.due("sample 0", x.at(0), BAD);
        Check.due("stored", x.stored(0), NONE);
        Check.due("runs", x.runs(), 0);
        Check.due("an empty tape", x.text(), 0);
    }

    private static void feed() {
        Sentences.promise(2, "Eight bytes come behind THE TAPE, the highest first: how many it has.");
        for (int place = 0; place < 8; place++) {
            for (long odd : new long[] {0x80, 0xFF, 0x7F, 0}) {
                long v = 0x2020202020202020L & ~(255L << 56 - 8 * place) | odd << 56 - 8 * place;
                EightWires x = new EightWires();
                Check.due("feed", x.feed(0x2020202020202020L), 8);
                Check.due("feed again", x.feed(v), 16);
                Check.due("the byte " + odd + " in place " + place, x.text(), -10 - 8 - place);
                Check.due("is no token", x.fault(), 1);
            }
        }
        EightWires x = new EightWires();
        Check.due("feed(MIN)", x.feed(Long.MIN_VALUE), 8);
        Check.due("feed(MAX)", x.feed(Long.MAX_VALUE), 16);
        Check.due("feed(-1)", x.feed(-1L), 24);
        Check.due("feed(0)", x.feed(0L), 32);
    }

    private static void feedFull() {
        Sentences.promise(2, "FULL: more than 400.");
        EightWires x = new EightWires();
        for (int n = 8; n <= 400; n += 8) {
            Check.due("feed", x.feed(0x2020202020202020L), n);
        }
        for (int size = 400; size > 392; size--) {
            x.end(size);
            Check.due("feed on " + size, x.feed(0x2E2E2E2E2E2E2E2EL), FULL);
            Check.due("the tape then", x.count(2), size);
        }
        x.end(392);
        Check.due("feed on 392", x.feed(0x646570746820373BL), 400);
        // Nothing that was refused is on it.
        Check.due("the text", x.text(), 1);
        Check.due("feed when it is empty then", x.feed(0), 8);
    }

    private static void end() {
        Sentences.promise(3, "THE TAPE keeps its first n bytes: how many it had.");
        EightWires x = new EightWires();
        Check.due("end(0) of an empty tape", x.end(0), 0);
        x.feed(0x646570746820373BL);
        Check.due("end of all", x.end(8), 8);
        Check.due("all is there", x.text(), 1);
        x.feed(0x646570746820373BL);
        Check.due("all but one", x.end(7), 8);
        Check.due("the last is gone", x.text(), -10 - 7);
        x.feed(0x646570746820373BL);
        Check.due("end(1)", x.end(1), 8);
        Check.due("one is there", x.count(2), 1);
        Check.due("end(0)", x.end(0), 1);
        Check.due("none is there", x.count(2), 0);
        // What comes then stands where the others stood.
        x.feed(0x646570746820393BL);
        Check.due("a new text", x.text(), 1);
        Check.due("it is told", x.rule(1), 9);
        Check.tape(x, " ".repeat(400));
        Check.due("end of a full tape", x.end(400), 400);
        Check.due("end(399)", x.end(399), 400);
        Check.due("399 then", x.count(2), 399);
    }

    private static void endBad() {
        Sentences.promise(3, "BAD (n above that, too).");
        EightWires x = new EightWires();
        Check.refuses("end of an empty tape", 0, 0, BAD, x::end);
        x.feed(0x646570746820373BL);
        Check.refuses("end of 8", 0, 8, BAD, x::end);
        Check.due("the tape stays", x.count(2), 8);
        Check.due("its text too", x.text(), 1);
        Check.tape(x, " ".repeat(400));
        Check.refuses("end of 400", 0, 400, BAD, x::end);
        Check.due("the full tape stays", x.count(2), 400);
    }

    // ---- tokens

    private static void tapePlaces() {
        Sentences.terms("THE TAPE has 400 bytes, places from 0.");
        Check.faulty(".", 1, 0);
        Check.faulty("." + " ".repeat(399), 1, 0);
        Check.faulty(" ".repeat(399) + ".", 1, 399);
        Check.faulty(" ".repeat(399) + "x", 2, 399);
        Check.faulty("depth 7" + " ".repeat(393), 2, 400);
        Check.lines("depth 7;" + " ".repeat(392), 1);
        Check.lines(" ".repeat(392) + "depth 7;", 1);
        Check.faulty("x".repeat(400), 2, 0);
        Check.faulty("7".repeat(400), 1, 0);
        Check.faulty(";".repeat(400), 2, 0);
        Check.faulty("ahead 100;" + " ".repeat(390), 6, 400);
    }

    private static void tokensAndBlanks() {
        Sentences.terms("TOKENS, each as long as may be, blanks (32) ahead, between, behind, as many as wanted"
                + " (at least one between two NAMES, between two NUMBERS; else none is needed):");
        Check.lines("state high0&low1times2go0|rise3go hit;keep is1;depth5;ahead4;", 4);
        Check.lines("  state  high  0  &  low  1  times  2  go  0  |  rise  3  go  hit  ;  depth  5  ;  ", 2);
        Check.lines("depth" + " ".repeat(393) + "7;", 1);
        Check.lines("depth7" + " ".repeat(393) + ";", 1);
        // Two names without a blank are one name, two numbers one number.
        Check.faulty("statehigh 0 go hit;", 2, 0);
        Check.faulty("state high 0 gohit;", 2, 13);
        Check.faulty("state high0times2gohit;", 2, 17);
        Check.faulty("depth 10 0;", 2, 9);
        Check.lines("depth 100;", 1);
        Check.faulty("depth 100 0;", 2, 10);
        Check.faulty("depth 1000;", 1, 6);
        Check.faulty("dep th 5;", 2, 0);
        Check.faulty("state high 0 go hi t;", 2, 16);
        // A sign is one byte, whatever stands right behind it.
        Check.faulty("depth 7;7", 2, 8);
        Check.faulty("depth 7;;", 2, 8);
        Check.faulty("keep is 1&7", 2, 10);
        Check.faulty("keep is 1&&", 2, 10);
        Check.faulty("state is 1 go 0|7", 2, 16);
        Check.faulty("state is 1 go 0||", 2, 16);
        Check.lines("depth 7;ahead 6;keep is 1&is 2;", 3);
        // A name is no longer than its letters, a number than its figures.
        Check.faulty("x1234", 2, 0);
        Check.faulty("depth x1", 2, 6);
        Check.faulty("depth 1x", 2, 7);
        // Other blanks are none.
        for (char c : new char[] {9, 10, 11, 12, 13, 160, 0}) {
            Check.faulty("depth" + c + "5;", 1, 5);
        }
    }

    private static void bytesThatAreTokens() {
        Sentences.terms("NAMES (a .. z), NUMBERS (1 to 3 figures), SIGNS ; | & (a point is none).");
        for (char c = 0; c < 256; c++) {
            if (c == ' ') {
                Check.lines(BLANKS + c, 0);
                Check.lines("keep is" + c + "1;", 1);
                Check.lines("keep is1" + c + ";", 1);
            } else if (c >= 'a' && c <= 'z') {
                Check.faulty(BLANKS + c, 2, 8);
                Check.faulty("keep is" + c + "1;", 2, 5);
                Check.faulty("keep is1" + c + ";", 2, 8);
            } else if (c >= '0' && c <= '9') {
                Check.faulty(BLANKS + c, 2, 8);
                Check.lines("keep is" + c + "1;", 1);
                Check.lines("keep is1" + c + ";", 1);
            } else if (c == ';' || c == '|' || c == '&') {
                Check.faulty(BLANKS + c, 2, 8);
                Check.faulty("keep is" + c + "1;", 2, 7);
                Check.faulty("keep is1" + c + ";", 2, c == '|' ? 8 : 9);
            } else {
                Check.faulty(BLANKS + c, 1, 8);
                Check.faulty("keep is" + c + "1;", 1, 7);
                Check.faulty("keep is1" + c + ";", 1, 8);
            }
        }
        Check.lines("depth 1;", 1);
        Check.lines("depth 12;", 1);
        Check.lines("depth 123;", 1);
        Check.lines("depth 001;", 1);
        Check.faulty("depth 1234;", 1, 6);
        Check.faulty("depth 0001;", 1, 6);
        Check.faulty("depth 1.5;", 1, 7);
    }

    // ---- what may stand where

    /** Behind these words only those tokens may stand; every other one, the end too, is fault 2 there. */
    private static void only(String ahead, List<String> may) {
        for (String token : TOKENS) {
            EightWires x = new EightWires();
            Check.tape(x, ahead + token);
            boolean here = x.text() == -10 - ahead.length() && x.fault() == 2;
            Check.due("'" + token + "' behind '" + ahead + "' can not stand", here ? 1 : 0, may.contains(token) ? 0 : 1);
        }
    }

    private static void emptyText() {
        Sentences.terms("text: { line }");
        Check.lines("", 0);
        Check.lines(" ", 0);
        Check.lines(" ".repeat(400), 0);
        only("", LINES);
        only("depth 7 ; ", LINES);
        EightWires x = Portrait.rich();
        x.end(0);
        Check.due("an empty text is taken", x.text(), 0);
        Check.due("it tells no states", x.rule(0), 0);
        Check.due("depth as at first", x.rule(1), 100);
        Check.due("ahead as at first", x.rule(2), 0);
        Check.due("no keep", x.rule(3), 0);
    }

    private static void lineGrammar() {
        Sentences.terms("line: state branch { \"|\" branch } ; | keep cond ; | depth N ; | ahead N ;");
        only("state ", TERMS);
        only("state high 1 go 0 ", List.of("|", ";"));
        only("state high 1 go hit ", List.of("|", ";"));
        only("state high 1 go 0 | ", TERMS);
        only("state high 1 go 0 ; ", LINES);
        only("keep ", TERMS);
        only("keep is 1 ", List.of("&", ";"));
        only("keep is 1 ; ", LINES);
        only("depth ", List.of("1"));
        only("depth 1 ", List.of(";"));
        only("ahead ", List.of("1"));
        only("ahead 1 ", List.of(";"));
        only("ahead 1 ; ", LINES);
    }

    private static void branchGrammar() {
        Sentences.terms("branch: cond [ times N ] go to");
        only("state high 1 ", List.of("&", "times", "go"));
        only("state high 1 times ", List.of("1"));
        only("state high 1 times 1 ", List.of("go"));
        only("state high 1 go 0 | low 1 ", List.of("&", "times", "go"));
        only("state high 1 go 0 | low 1 times 9 ", List.of("go"));
    }

    private static void condGrammar() {
        Sentences.terms("cond: term { & term }");
        only("state high 1 & ", TERMS);
        only("keep high 1 & ", TERMS);
        only("keep high 1 & low 1 & ", TERMS);
        // Behind the third term a fourth is too many, which is another fault.
        only("keep high 1 & low 1 & is 1 ", List.of("&", ";"));
        only("state high 1 & low 1 & is 1 ", List.of("&", "times", "go"));
    }

    private static void toGrammar() {
        Sentences.terms("to: N | hit");
        only("state high 1 go ", List.of("1", "hit"));
        only("state high 1 times 2 go ", List.of("1", "hit"));
    }

    private static void termGrammar() {
        Sentences.terms("term: high N | low N | rise N | fall N | is N | not N | after N");
        for (int kind = 0; kind < TERMS.size(); kind++) {
            only("state " + TERMS.get(kind) + " ", List.of("1"));
            only("keep " + TERMS.get(kind) + " ", List.of("1"));
            EightWires x = Check.told("state " + TERMS.get(kind) + " 1 go hit;");
            Check.due("what the term is", x.branch(0, 0, 10), kind);
        }
    }

    // ---- the bounds of numbers

    /** A number is taken from low to high, where it stands between these words, and nowhere else. */
    private static void bounds(String ahead, int low, int high, String behind) {
        for (int n : new int[] {low, low + 1, high - 1, high}) {
            EightWires x = new EightWires();
            Check.tape(x, ahead + n + behind);
            Check.due("'" + ahead + n + behind + "' is taken", x.text() < 0 ? 0 : 1, 1);
        }
        for (int n : new int[] {low - 1, high + 1, 999}) {
            // A number of four figures is no token, which is another fault.
            if (n >= 0 && n <= 999 && n != high) {
                Check.faulty(ahead + n + behind, 3, ahead.length());
            }
        }
    }

    private static void wireBounds() {
        Sentences.terms("high, low, rise, fall: a WIRE.");
        for (String name : TERMS.subList(0, 4)) {
            bounds("keep " + name + " ", 0, 7, ";");
            bounds("state " + name + " ", 0, 7, " go hit;");
            bounds("state is 0 & " + name + " ", 0, 7, " go hit;");
        }
    }

    private static void sampleBounds() {
        Sentences.terms("is, not: the SAMPLE is that (0 to 255), is not.");
        for (String name : TERMS.subList(4, 6)) {
            bounds("keep " + name + " ", 0, 255, ";");
            bounds("state " + name + " ", 0, 255, " go hit;");
        }
        for (int v : new int[] {0, 1, 127, 128, 254, 255}) {
            EightWires x = Check.told("state is " + v + " go hit; keep not " + v + ";");
            Check.see(x, 255 - v, v, v);
            Check.due("the sample is " + v, x.run(0), 1);
            Check.due("it is not", x.next(0), 0);
            Check.due("it is not, no more", x.next(1), NONE);
        }
    }

    private static void afterBounds() {
        Sentences.terms("after: 1 to 999.");
        bounds("keep after ", 1, 999, ";");
        bounds("state after ", 1, 999, " go hit;");
    }

    private static void timesBounds() {
        Sentences.terms("times: 1 to 99 (1).");
        bounds("state is 0 times ", 1, 99, " go hit;");
        bounds("state is 0 go 0 | is 1 times ", 1, 99, " go 0;");
        EightWires x = Check.told("state is 0 times 1 go hit | is 0 times 99 go 0 | is 0 go hit;");
        Check.due("the least", x.branch(0, 0, 1), 1);
        Check.due("the most", x.branch(0, 1, 1), 99);
        Check.due("not told", x.branch(0, 2, 1), 1);
    }

    private static void toBounds() {
        Sentences.terms("to: a STATE, HIT.");
        bounds("state is 0 go hit;".repeat(7) + "state is 0 go ", 0, 7, ";");
        Check.lines("state is 0 go 0;", 1);
        Check.lines("state is 0 go hit;", 1);
        Check.due("a state", Check.told("state is 0 go 0;").branch(0, 0, 2), 0);
        Check.due("hit", Check.told("state is 0 go hit;").branch(0, 0, 2), 8);
        Check.due("state 7", Check.told("state is 0 go 7;" + "state is 0 go 0;".repeat(7)).branch(0, 0, 2), 7);
    }

    private static void depthBounds() {
        Sentences.terms("depth: 1 to 400 (100).");
        bounds("depth ", 1, 400, ";");
        Check.due("the least", Check.told("depth 1;").rule(1), 1);
        Check.due("the most", Check.told("depth 400;").rule(1), 400);
        Check.due("not told", Check.told("ahead 5;").rule(1), 100);
    }

    private static void aheadBounds() {
        Sentences.terms("ahead: 0 to 399 (0).");
        bounds("depth 400; ahead ", 0, 399, ";");
        Check.due("the least", Check.told("ahead 0;").rule(2), 0);
        Check.due("the most", Check.told("depth 400; ahead 399;").rule(2), 399);
        Check.due("not told", Check.told("depth 5;").rule(2), 0);
    }

    private static void mostOfAll() {
        Sentences.terms("8 STATES at most (the first one is STATE 0), 3 branches of each, 3 terms of each cond.");
        // All that 400 bytes have room for: seven states with nine terms each, an eighth, keep.
        StringBuilder text = new StringBuilder();
        for (int s = 0; s < 7; s++) {
            text.append("state is" + s + "&is1&is2go0|is3&is4&is5go" + s + "|is6&is7&is8go7;");
        }
        text.append("state is9go0;keep is1&is2&is3;");
        EightWires x = Check.told(text.toString());
        Check.due("states", x.rule(0), 8);
        Check.due("terms of keep", x.rule(3), 3);
        for (int s = 0; s < 7; s++) {
            Check.due("branches of " + s, x.rule(10 + s), 3);
            Check.due("its first number", x.branch(s, 0, 20), s);
            Check.due("its own target", x.branch(s, 1, 2), s);
            Check.due("its last target", x.branch(s, 2, 2), 7);
            Check.due("its last terms", x.branch(s, 2, 0), 3);
            Check.due("its last number", x.branch(s, 2, 22), 8);
        }
        Check.due("branches of 7", x.rule(17), 1);
        Check.due("number of 7", x.branch(7, 0, 20), 9);
        Check.due("branches of 8", x.rule(18), BAD);
        // The last branch of the last state, with its last term.
        EightWires y = Check.told("state is 0 go 0;".repeat(7) + "state is 1 go 0 | is 2 go 0 | is 3 & is 4 & is 5 times 99 go 7;");
        Check.due("branches of state 7", y.rule(17), 3);
        int[][] last = {{0, 3}, {1, 99}, {2, 7}, {10, 4}, {20, 3}, {12, 4}, {22, 5}};
        for (int[] d : last) {
            Check.due("the last branch: " + d[0], y.branch(7, 2, d[0]), d[1]);
        }
        Check.lines("state is 0 go 0;".repeat(8), 8);
        Check.lines("state is 0 go 0 | is 0 go 0 | is 0 go 0;", 1);
        Check.lines("keep is 0 & is 0 & is 0;", 1);
    }

    // ---- faults

    private static void firstFault() {
        Sentences.terms("FAULTS, the first met as it is read (a TOKEN is read when the one before has been taken):");
        Check.faulty(". x", 1, 0);
        Check.faulty("x .", 2, 0);
        Check.faulty("depth x .", 2, 6);
        Check.faulty("depth 0 .", 3, 6);
        Check.faulty("depth 0.", 3, 6);
        Check.faulty("depth 401 1234", 3, 6);
        Check.faulty("depth 0", 3, 6);
        Check.faulty("keep low 8 & low 1 & low 1 & low 1;", 3, 9);
        Check.faulty("state low 8.", 3, 10);
        Check.faulty("state low 1 times 0 go 9;", 3, 18);
        Check.faulty("state low 1 times 100.", 3, 18);
        Check.faulty("state low 1 go 8.", 3, 15);
        Check.faulty("depth 1; depth .", 4, 9);
        Check.faulty("depth 1; depth", 4, 9);
        Check.faulty("ahead 1; ahead 999;", 4, 9);
        Check.faulty("keep low 1; keep low 9;", 4, 12);
        Check.faulty("depth 1; ahead 400; depth", 3, 15);
        Check.faulty("state low 0 go 0;".repeat(8) + "state.", 5, 136);
        Check.faulty("state low 0 go 0;".repeat(8) + "state", 5, 136);
        Check.faulty("keep is 0 & is 0 & is 0 &.", 5, 24);
        Check.faulty("state is 0 go 0 | is 0 go 0 | is 0 go 0 |.", 5, 40);
        Check.faulty("state low 0 go 5; .", 1, 18);
        Check.faulty("state low 0 go 5; x", 2, 18);
        Check.faulty("state low 0 go 5; depth 0;", 3, 24);
        Check.faulty("ahead 300; ahead 2;", 4, 11);
        Check.faulty("ahead 100; depth 101", 2, 20);
    }

    private static void noToken() {
        Sentences.terms("1 no TOKEN, a NUMBER that is too long (its first byte).");
        // Wherever it stands, even where no number could.
        String[] heads = {"", "state ", "state high ", "state high 1 ", "state high 1 & ", "state high 1 times ",
            "state high 1 times 1 ", "state high 1 go ", "state high 1 go 0 ", "state high 1 go 0 | ",
            "state high 1 go 0; ", "keep ", "keep is ", "keep is 1 ", "keep is 1; ", "depth ", "depth 1 ", "depth 1; ",
            "ahead ", "ahead 1 ", "ahead 1; "};
        for (String head : heads) {
            for (String none : new String[] {".", "1234", "0000", "000001", "A", "Z", "-1", "#", "\u00ff", "\u0000", "1234;"}) {
                Check.faulty(head + none, 1, head.length());
                Check.faulty(head + "   " + none, 1, head.length() + 3);
            }
        }
        Check.faulty("depth 999999999999;", 1, 6);
        Check.faulty("depth 4294967297;", 1, 6);
    }

    private static void notThere() {
        Sentences.terms("2 a TOKEN that can not stand there (a NAME that begins no line, is no term; or the end: the length).");
        for (String name : new String[] {"a", "z", "states", "stat", "tate", "keeps", "kee", "depths", "dept", "aheads",
            "ahea", "high", "times", "go", "hit", "after", "xtate", "sxate", "stxte", "staxe", "statx", "xeep", "keex",
            "xepth", "deptx", "xhead", "aheax"}) {
            Check.faulty(name + " 1;", 2, 0);
            Check.faulty("depth 7;" + name + " 1;", 2, 8);
        }
        for (String name : new String[] {"a", "z", "highs", "hig", "xigh", "hxgh", "hixh", "higx", "lows", "lo", "xow",
            "rises", "ris", "xise", "falls", "fal", "xall", "iss", "i", "xs", "ix", "nots", "no", "xot", "nox", "afters",
            "afte", "xfter", "aftex", "state", "keep", "depth", "ahead", "times", "go", "hit"}) {
            Check.faulty("keep " + name + " 1;", 2, 5);
            Check.faulty("state " + name + " 1 go hit;", 2, 6);
            Check.faulty("keep is 1 & " + name + " 1;", 2, 12);
        }
        for (String name : new String[] {"time", "timess", "timex", "ximes", "g", "gos", "gx", "xo", "hit"}) {
            Check.faulty("state is 1 " + name + " 1 go hit;", 2, 11);
        }
        for (String name : new String[] {"hi", "hits", "hix", "xit", "go", "state"}) {
            Check.faulty("state is 1 go " + name + ";", 2, 14);
        }
        theEnd();
    }

    /** Wherever a line is broken off, the fault is at the length, blanks behind counted. */
    private static void theEnd() {
        String[] lines = {"state high 1 & low 2 times 3 go 0 | is 4 go hit ;", "keep high 1 & is 2 ;", "depth 5 ;", "ahead 6 ;"};
        for (String line : lines) {
            for (int i = line.indexOf(' '); i > 0; i = line.indexOf(' ', i + 1)) {
                Check.faulty(line.substring(0, i), 2, i);
                Check.faulty(line.substring(0, i) + "   ", 2, i + 3);
                Check.faulty("  " + line.substring(0, i), 2, i + 2);
            }
            Check.lines(line, 1);
        }
    }

    private static void outOfBounds() {
        Sentences.terms("3 a NUMBER out of its bounds (to: 0 to 7).");
        Check.faulty("state is 0 go 8;", 3, 14);
        Check.faulty("state is 0 go 9;", 3, 14);
        Check.faulty("state is 0 go 999;", 3, 14);
        Check.faulty("state is 0 go 08;", 3, 14);
        // Within the bounds, but no state: not this fault.
        Check.faulty("state is 0 go 7;", 6, 16);
        Check.faulty("state is 0 go 007;", 6, 18);
        Check.faulty("depth 000;", 3, 6);
        Check.faulty("keep is 256;", 3, 8);
        Check.faulty("keep after 000;", 3, 11);
        Check.faulty("state is 0 times 00 go hit;", 3, 17);
        Check.faulty("ahead 400;", 3, 6);
    }

    private static void secondTime() {
        Sentences.terms("4 keep, depth, ahead for the second time (its NAME).");
        Check.faulty("keep is 1;keep is 1;", 4, 10);
        Check.faulty("depth 100;depth 100;", 4, 10);
        Check.faulty("depth 1;depth 1;", 4, 8);
        Check.faulty("ahead 0;  ahead 0;", 4, 10);
        Check.faulty("ahead 7;keep is 1;depth 9;state is 1 go hit;keep", 4, 44);
        Check.faulty("ahead 7;keep is 1;depth 9;state is 1 go hit;depth", 4, 44);
        Check.faulty("ahead 7;keep is 1;depth 9;state is 1 go hit;ahead", 4, 44);
        Check.lines("ahead 7;keep is 1;depth 9;state is 1 go hit;", 4);
        // A second text may tell them again, whether the first was taken or not.
        EightWires x = Check.told("ahead 7;keep is 1;depth 9;");
        Check.tell(x, "ahead 7;keep is 1;depth 9;");
        Check.tape(x, "ahead 7;keep is 1;depth 9;.");
        Check.due("a fault", x.text(), -36);
        Check.tell(x, "ahead 7;keep is 1;depth 9;");
    }

    private static void tooMany() {
        Sentences.terms("5 the 9th state (its NAME), the 4th branch (the | ahead of it), the 4th term (the & ahead of it).");
        String state = "state is 0 go 0;";
        Check.lines(state.repeat(8), 8);
        Check.faulty(state.repeat(9), 5, 128);
        Check.faulty(state.repeat(8) + "  state", 5, 130);
        Check.faulty(state.repeat(7) + "depth 9;" + state + "keep is 0;" + state, 5, 146);
        String branches = "state is 0 go 0 | is 0 go 0 | is 0 go 0";
        Check.lines(branches + ";", 1);
        Check.faulty(branches + " | is 0 go 0;", 5, 40);
        Check.faulty(branches + "   |", 5, 42);
        Check.lines(branches + ";" + branches + ";", 2);
        Check.faulty(branches + ";" + branches + "|", 5, 79);
        String cond = "is 0 & is 0 & is 0";
        Check.lines("keep " + cond + ";", 1);
        Check.faulty("keep " + cond + " & is 0;", 5, 24);
        Check.faulty("keep " + cond + "&", 5, 23);
        Check.faulty("state " + cond + " & is 0 go 0;", 5, 25);
        Check.faulty("state is 0 go 0 | " + cond + "  & is 0 go 0;", 5, 38);
        Check.lines("state " + cond + " go 0 | " + cond + " go 0 | " + cond + " go 0; keep " + cond + ";", 2);
    }

    private static void notFitting() {
        Sentences.terms("Behind all (the length): 6 to a STATE that there is not; ahead is no less than depth.");
        Check.faulty("state is 0 go 1;", 6, 16);
        Check.faulty("state is 0 go 1;    ", 6, 20);
        Check.lines("state is 0 go 1; state is 0 go 0;", 2);
        Check.faulty("state is 0 go 1; state is 0 go 2;", 6, 33);
        Check.faulty("state is 0 go 0 | is 0 go 0 | is 0 go 1;", 6, 40);
        Check.faulty("state is 0 go 0 | is 0 go 1 | is 0 go hit;", 6, 42);
        Check.lines("state is 0 go 7;" + "state is 0 go 0;".repeat(7), 8);
        Check.faulty("state is 0 go 7;" + "state is 0 go 0;".repeat(6), 6, 112);
        Check.lines("ahead 99;", 1);
        Check.faulty("ahead 100;", 6, 10);
        Check.faulty("ahead 101;", 6, 10);
        Check.lines("depth 1;", 1);
        Check.faulty("depth 1; ahead 1;", 6, 17);
        Check.faulty("ahead 1; depth 1;", 6, 17);
        Check.lines("ahead 1; depth 2;", 2);
        Check.lines("ahead 399; depth 400;", 2);
        Check.faulty("ahead 399; depth 399;", 6, 21);
        Check.faulty("state is 0 go 1; ahead 100; ", 6, 28);
    }

    private static void inPlaceOf() {
        Sentences.terms("A text that is taken tells all of this, in place of what there was (what it does not tell is as at"
                + " first). THE TRACE stays; IMAGES, SHEETS, too.");
        String[] texts = {"", "depth 7;", "ahead 7;", "keep is 7;", "state is 7 go hit;"};
        int[][] rules = {{0, 100, 0, 0}, {0, 7, 0, 0}, {0, 100, 7, 0}, {0, 100, 0, 1}, {1, 100, 0, 0}};
        for (int n = 0; n < texts.length; n++) {
            for (EightWires x : new EightWires[] {Portrait.rich(), Portrait.full()}) {
                EightWires same = x.count(0) == 400 ? Portrait.full() : Portrait.rich();
                x.end(0);
                Check.tell(x, texts[n]);
                for (int what = 0; what < 4; what++) {
                    Check.due("rule " + what + " of '" + texts[n] + "'", x.rule(what), rules[n][what]);
                }
                Check.due("branches of state 0", x.rule(10), n == 4 ? 1 : BAD);
                Check.due("branches of state 1", x.rule(11), BAD);
                Check.same("trace, images, sheets", Portrait.held(x).toString(), Portrait.held(same).toString());
            }
        }
        texts();
    }

    /** Not only what the latest text told is gone, but what any of them told. */
    private static void texts() {
        EightWires x = new EightWires();
        for (int n = 0; n < 3; n++) {
            Check.tell(x, "depth 9; ahead 7; keep is 1 & is 2; state is 1 & is 2 times 5 go hit | is 3 go 0; state is 4 go 0;");
            Check.tell(x, "depth 8; ahead 6; keep is 1; state is 1 times 5 go hit;");
            for (int m = 0; m < 3; m++) {
                Check.due("a text without lines", x.text(), 0);
                int[] due = {0, 100, 0, 0};
                for (int what = 0; what < 4; what++) {
                    Check.due("rule " + what, x.rule(what), due[what]);
                }
                Check.due("no branch", x.branch(0, 0, 0), BAD);
            }
            Check.tell(x, "state is 7 go hit;");
            Check.due("terms", x.branch(0, 0, 0), 1);
            Check.due("times", x.branch(0, 0, 1), 1);
            Check.due("one branch", x.rule(10), 1);
        }
    }

    // ---- promises 4 to 7

    private static void text() {
        Sentences.promise(4, "THE TAPE (empty then, by a FAULT, too) tells all: how many lines; -10 less the place of its"
                + " FAULT: that which was told stays.");
        Check.lines("", 0);
        Check.lines("depth 7;", 1);
        Check.lines("state is 0 go 0;".repeat(8) + "keep is 0;depth 7;ahead 6;", 11);
        String[] faults = {"depth 3;ahead 2;keep low 0;state is 0 go hit;.", "depth 3;ahead 2;keep low 0;state is 0 go hit;x",
            "depth 3;ahead 2;keep low 0;state is 0 go 8", "depth 3;ahead 2;keep low 0;state is 0 go hit;keep",
            "depth 3;ahead 2;keep low 0;" + "state is 0 go hit;".repeat(9), "depth 3;ahead 3;keep low 0;state is 0 go hit;"};
        int[] places = {45, 45, 41, 45, 171, 45};
        for (int n = 0; n < faults.length; n++) {
            EightWires x = Portrait.rich();
            x.end(0);
            Check.tape(x, faults[n]);
            Check.due("the place", x.text(), -10 - places[n]);
            Check.due("the fault", x.fault(), n + 1);
            Check.due("the tape is empty then", x.count(2), 0);
            Check.same("what was told", Portrait.told(x).toString(), Portrait.told(Portrait.rich()).toString());
            Check.same("what is held", Portrait.held(x).toString(), Portrait.held(Portrait.rich()).toString());
            // The tape is empty: this is a text without lines.
            Check.due("a text again", x.text(), 0);
            Check.due("it is taken", x.rule(0), 0);
        }
        Check.faulty(".", 1, 0);
        Check.faulty("depth 7" + " ".repeat(393), 2, 400);
    }

    private static void fault() {
        Sentences.promise(5, "The FAULT of the latest text(); 0.");
        EightWires x = new EightWires();
        Check.due("no text yet", x.fault(), 0);
        Check.tape(x, "depth 0;");
        Check.due("the text is not told yet", x.fault(), 0);
        x.text();
        Check.due("a fault", x.fault(), 3);
        Check.due("it stays", x.fault(), 3);
        Check.tape(x, "x");
        Check.due("the next text is not told yet", x.fault(), 3);
        x.text();
        Check.due("the next fault", x.fault(), 2);
        x.end(9);
        x.see(0, 0);
        x.read(0, 0, 0, 1);
        Check.due("other calls leave it", x.fault(), 2);
        x.text();
        Check.due("a text without a fault", x.fault(), 0);
    }

    private static void rule() {
        Sentences.promise(6, "How many: 0 STATES, 1 depth, 2 ahead, 3 terms of keep (0: none was told);");
        EightWires x = Check.told("depth 400; ahead 399; keep is 0 & is 0 & is 0;" + "state is 0 go 0;".repeat(8));
        int[] most = {8, 400, 399, 3};
        int[] none = {0, 100, 0, 0};
        for (int what = 0; what < 4; what++) {
            Check.due("the most of " + what, x.rule(what), most[what]);
            Check.due("none of " + what, new EightWires().rule(what), none[what]);
        }
        Sentences.promise(6, "10 and s: BRANCHES of STATE s. BAD.");
        EightWires y = Check.told("state is 0 go 0; state is 0 go 0 | is 0 go 0; state is 0 go 0 | is 0 go 0 | is 0 go 0;");
        for (int s = 0; s < 3; s++) {
            Check.due("branches of " + s, y.rule(10 + s), s + 1);
        }
        for (int what : new int[] {4, 5, 6, 7, 8, 9, 13, 14, 15, 16, 17, 18}) {
            Check.due("rule " + what, y.rule(what), BAD);
        }
        Check.refuses("rule of three states", 0, 12, BAD, y::rule);
        Check.due("branches of 7", x.rule(17), 1);
        Check.refuses("rule of eight states", 0, 17, BAD, x::rule);
        for (int what = 4; what < 20; what++) {
            Check.due("rule " + what + " without states", new EightWires().rule(what), BAD);
        }
    }

    private static void branch() {
        Sentences.promise(7, "Of a BRANCH: 0 terms, 1 times, 2 to (8: HIT); 10 and i: what term i is (0 high, 1 low, 2 rise,"
                + " 3 fall, 4 is, 5 not, 6 after), 20 and i: its NUMBER.");
        EightWires x = Check.told("state high 0 & low 7 & rise 0 times 99 go 0 | fall 7 & is 255 & not 0 times 1 go hit"
                + " | after 999 go 1; state after 1 go hit;");
        int[][] due = {{0, 0, 3, 99, 0, 0, 0, 1, 7, 2, 0}, {0, 1, 3, 1, 8, 3, 7, 4, 255, 5, 0}, {0, 2, 1, 1, 1, 6, 999},
            {1, 0, 1, 1, 8, 6, 1}};
        for (int[] d : due) {
            for (int what = 0; what < 3; what++) {
                Check.due("branch " + d[0] + " " + d[1] + " " + what, x.branch(d[0], d[1], what), d[2 + what]);
            }
            for (int i = 0; i < d[2]; i++) {
                Check.due("what term " + i + " is", x.branch(d[0], d[1], 10 + i), d[5 + 2 * i]);
                Check.due("the number of term " + i, x.branch(d[0], d[1], 20 + i), d[6 + 2 * i]);
            }
        }
        Sentences.promise(7, "BAD.");
        for (int what : new int[] {3, 9, 13, 19, 23, 30}) {
            Check.due("three terms: " + what, x.branch(0, 0, what), BAD);
        }
        for (int what : new int[] {3, 9, 11, 12, 13, 19, 21, 22, 23, 30}) {
            Check.due("one term: " + what, x.branch(0, 2, what), BAD);
        }
        Check.refuses("branch what", 0, 22, BAD, what -> x.branch(0, 0, what));
        Check.refuses("branch s", 0, 1, BAD, s -> x.branch(s, 0, 0));
        Check.refuses("branch b of state 0", 0, 2, BAD, b -> x.branch(0, b, 0));
        Check.refuses("branch b of state 1", 0, 0, BAD, b -> x.branch(1, b, 0));
        Check.due("a new object", new EightWires().branch(0, 0, 0), BAD);
        // What a text told that was replaced is there no more.
        Check.tell(x, "state is 0 go hit;");
        Check.due("the second branch is gone", x.branch(0, 1, 0), BAD);
        Check.due("the second state is gone", x.branch(1, 0, 0), BAD);
        Check.due("the second term is gone", x.branch(0, 0, 11), BAD);
        Check.due("times are as at first", x.branch(0, 0, 1), 1);
    }
}
