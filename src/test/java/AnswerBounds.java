import java.util.ArrayList;
import java.util.List;
import java.util.function.Supplier;
import java.util.function.ToIntFunction;

/** Boundary cases of the answers in general: which one is first, and that what is refused changes nothing. */
final class AnswerBounds {
    private static final int BAD = EightWires.BAD;
    private static final int STATE = EightWires.STATE;
    private static final int FULL = EightWires.FULL;
    private static final int NONE = EightWires.NONE;
    private static final int LOWEST = Integer.MIN_VALUE;
    private static final int HIGHEST = Integer.MAX_VALUE;
    private static final int MOST_CALLS = 512;

    private record Call(String name, int due, ToIntFunction<EightWires> answer) {
    }

    private AnswerBounds() {
    }

    static void all() {
        firstThatFits();
        refusedChangesNothing();
        fractions();
        dividedDown();
        mostCalls();
        Sentences.end();
    }

    private static void firstThatFits() {
        Sentences.terms("Answers: BAD -1 (a number is not as told, there is no such SAMPLE, STATE, BRANCH, WIRE, IMAGE, SHEET), STATE -2"
                + " (as told), FULL -3, NONE -4 (there is none), the first that fits;");
        Check.due("BAD", EightWires.BAD, -1);
        Check.due("STATE", EightWires.STATE, -2);
        Check.due("FULL", EightWires.FULL, -3);
        Check.due("NONE", EightWires.NONE, -4);
        // Of each call in which two of them fit.
        List<Call> calls = List.of(
                new Call("run: BAD, STATE", BAD, x -> x.run(4)),
                new Call("state: BAD, STATE", BAD, x -> x.state(0)),
                new Call("stored: BAD, NONE", BAD, x -> x.stored(3)),
                new Call("next: BAD, NONE", BAD, x -> x.next(0)),
                new Call("edge w: BAD, NONE", BAD, x -> x.edge(8, false, 0)),
                new Call("edge i: BAD, NONE", BAD, x -> x.edge(0, false, -1)),
                new Call("pulse w: BAD, NONE", BAD, x -> x.pulse(8, 0, 1)),
                new Call("pulse level: BAD, NONE", BAD, x -> x.pulse(0, 2, 1)),
                new Call("pulse what: BAD, NONE", BAD, x -> x.pulse(0, 0, 5)),
                new Call("duty w: BAD, NONE", BAD, x -> x.duty(-1, 0)),
                new Call("duty what: BAD, NONE", BAD, x -> x.duty(0, 2)),
                new Call("setup c: BAD, NONE", BAD, x -> x.setup(8, 0, 0)),
                new Call("setup d: BAD, NONE", BAD, x -> x.setup(0, 8, 0)),
                new Call("setup what: BAD, NONE", BAD, x -> x.setup(0, 0, 4)),
                new Call("values: BAD, NONE", BAD, x -> x.values(4)),
                new Call("back: BAD, STATE", BAD, x -> x.back(2)),
                new Call("unlike k: BAD, STATE", BAD, x -> x.unlike(2, 0)),
                new Call("unlike shift: BAD, STATE", BAD, x -> x.unlike(0, 401)),
                new Call("shift k: BAD, STATE", BAD, x -> x.shift(2, 0)),
                new Call("shift what: BAD, STATE", BAD, x -> x.shift(0, 2)),
                new Call("sheet k: BAD, SIZE", BAD, x -> x.sheet(4, 0, -1)),
                new Call("sheet lane: BAD, SIZE", BAD, x -> x.sheet(0, 3, -1)),
                new Call("lay: BAD, NULL", BAD, x -> x.lay(4, 0, 0)),
                new Call("lay: NULL, INDEX", -11, x -> x.lay(0, -1, 0)),
                new Call("read lane: BAD, NULL", BAD, x -> x.read(0, 3, 0, 1)),
                new Call("read n: BAD, NULL", BAD, x -> x.read(0, 0, 0, 21)));
        for (Call c : calls) {
            Check.due(c.name, c.answer.applyAsInt(new EightWires()), c.due);
        }
        EightWires full = Portrait.full();
        Check.due("see n: BAD, FULL", full.see(401, 0), BAD);
        Check.due("see v: BAD, FULL", full.see(1, 256), BAD);
        Check.due("see: FULL", full.see(1, 255), FULL);
    }

    // ---- what is refused

    private static void refusedChangesNothing() {
        Sentences.terms("what is refused changes nothing (but THE TAPE, as told).");
        refused("a new object", EightWires::new, anywhere(), List.of(
                new Call("end(1)", BAD, x -> x.end(1)), new Call("cut(1)", BAD, x -> x.cut(1)),
                new Call("put(0, 0)", BAD, x -> x.put(0, 0)), new Call("at(0)", BAD, x -> x.at(0)),
                new Call("run(0)", STATE, x -> x.run(0)), new Call("stored(0)", NONE, x -> x.stored(0)),
                new Call("next(0)", BAD, x -> x.next(0)), new Call("back(0)", STATE, x -> x.back(0)),
                new Call("unlike(0, 0)", STATE, x -> x.unlike(0, 0)), new Call("shift(1, 0)", STATE, x -> x.shift(1, 0)),
                new Call("lay(0, 0, 1)", -11, x -> x.lay(0, 0, 1))));
        refused("some of everything", Portrait::rich, anywhere(), List.of(
                new Call("end(14)", BAD, x -> x.end(14)), new Call("cut(16)", BAD, x -> x.cut(16)),
                new Call("put(15, 0)", BAD, x -> x.put(15, 0)), new Call("put(0, 256)", BAD, x -> x.put(0, 256)),
                new Call("see(386, 0)", FULL, x -> x.see(386, 0)), new Call("state(15)", BAD, x -> x.state(15)),
                new Call("back(1)", STATE, x -> x.back(1)), new Call("unlike(1, 0)", STATE, x -> x.unlike(1, 0)),
                new Call("sheet(0, 0, -1)", -14, x -> x.sheet(0, 0, -1)), new Call("sheet(3, 2, 41)", BAD, x -> x.sheet(3, 2, 41)),
                new Call("lay(0, 6, 1)", -12, x -> x.lay(0, 6, 1)), new Call("lay(1, -1, 1)", -12, x -> x.lay(1, -1, 1)),
                new Call("lay(3, 0, 1)", -11, x -> x.lay(3, 0, 1)), new Call("read(1, 1, 0, 21)", BAD, x -> x.read(1, 1, 0, 21))));
        refused("all that is full", Portrait::full, anywhere(), List.of(
                new Call("feed(0)", FULL, x -> x.feed(0)), new Call("end(401)", BAD, x -> x.end(401)),
                new Call("see(1, 0)", FULL, x -> x.see(1, 0)), new Call("see(400, 255)", FULL, x -> x.see(400, 255)),
                new Call("cut(401)", BAD, x -> x.cut(401)), new Call("put(400, 0)", BAD, x -> x.put(400, 0)),
                new Call("read(0, 0, 0, 1)", FULL, x -> x.read(0, 0, 0, 1)), new Call("lay(0, 2, 1)", -12, x -> x.lay(0, 2, 1))));
        badReads();
    }

    /** Calls that are refused whatever the object holds. */
    private static List<Call> anywhere() {
        List<Call> calls = new ArrayList<>();
        for (int far : new int[] {LOWEST, -1, HIGHEST}) {
            calls.add(new Call("end", BAD, x -> x.end(far)));
            calls.add(new Call("rule", BAD, x -> x.rule(far)));
            calls.add(new Call("branch", BAD, x -> x.branch(far, far, far)));
            calls.add(new Call("see n", BAD, x -> x.see(far, 0)));
            calls.add(new Call("see v", BAD, x -> x.see(1, far)));
            calls.add(new Call("cut", BAD, x -> x.cut(far)));
            calls.add(new Call("at", BAD, x -> x.at(far)));
            calls.add(new Call("put", BAD, x -> x.put(far, 0)));
            calls.add(new Call("put v", BAD, x -> x.put(0, far)));
            calls.add(new Call("run", BAD, x -> x.run(far)));
            calls.add(new Call("state", BAD, x -> x.state(far)));
            calls.add(new Call("stored", BAD, x -> x.stored(far)));
            calls.add(new Call("next", BAD, x -> x.next(far)));
            calls.add(new Call("edges", BAD, x -> x.edges(far, true)));
            calls.add(new Call("edge", BAD, x -> x.edge(far, true, 0)));
            calls.add(new Call("pulse", BAD, x -> x.pulse(far, 0, 0)));
            calls.add(new Call("duty", BAD, x -> x.duty(0, far)));
            calls.add(new Call("shorter", BAD, x -> x.shorter(0, far)));
            calls.add(new Call("smooth", BAD, x -> x.smooth(far)));
            calls.add(new Call("setup", BAD, x -> x.setup(0, 1, far)));
            calls.add(new Call("tight", BAD, x -> x.tight(0, 1, far, 0)));
            calls.add(new Call("bits", BAD, x -> x.bits(0, 1, 2, far)));
            calls.add(new Call("serial", BAD, x -> x.serial(0, far, 0)));
            calls.add(new Call("rate", BAD, x -> x.rate(0, far)));
            calls.add(new Call("seen", BAD, x -> x.seen(far, 0, 0)));
            calls.add(new Call("fills", BAD, x -> x.fills(far, 0)));
            calls.add(new Call("values", BAD, x -> x.values(far)));
            calls.add(new Call("keep", BAD, x -> x.keep(far)));
            calls.add(new Call("back", BAD, x -> x.back(far)));
            calls.add(new Call("unlike", BAD, x -> x.unlike(far, 0)));
            calls.add(new Call("shift", BAD, x -> x.shift(far, 0)));
            calls.add(new Call("sheet", BAD, x -> x.sheet(far, 0, 1)));
            calls.add(new Call("sheet lane", BAD, x -> x.sheet(0, far, 1)));
            calls.add(new Call("sheet n", far < 0 ? -14 : BAD, x -> x.sheet(0, 0, far)));
            calls.add(new Call("lay", BAD, x -> x.lay(far, 0, 1)));
            calls.add(new Call("read", BAD, x -> x.read(far, 0, 0, 1)));
            calls.add(new Call("read lane", BAD, x -> x.read(0, far, 0, 1)));
            calls.add(new Call("read n", BAD, x -> x.read(0, 0, 0, far)));
            calls.add(new Call("count", BAD, x -> x.count(far)));
        }
        calls.add(new Call("see(0, 0)", BAD, x -> x.see(0, 0)));
        calls.add(new Call("see(401, 0)", BAD, x -> x.see(401, 0)));
        calls.add(new Call("see(1, 256)", BAD, x -> x.see(1, 256)));
        calls.add(new Call("smooth(0)", BAD, x -> x.smooth(0)));
        calls.add(new Call("smooth(401)", BAD, x -> x.smooth(401)));
        calls.add(new Call("keep(2)", BAD, x -> x.keep(2)));
        calls.add(new Call("back(2)", BAD, x -> x.back(2)));
        calls.add(new Call("sheet(4, 0, 1)", BAD, x -> x.sheet(4, 0, 1)));
        calls.add(new Call("sheet(0, 3, 1)", BAD, x -> x.sheet(0, 3, 1)));
        calls.add(new Call("sheet(0, 0, 41)", BAD, x -> x.sheet(0, 0, 41)));
        calls.add(new Call("lay(4, 0, 1)", BAD, x -> x.lay(4, 0, 1)));
        calls.add(new Call("read(4, 0, 0, 1)", BAD, x -> x.read(4, 0, 0, 1)));
        calls.add(new Call("read(0, 3, 0, 1)", BAD, x -> x.read(0, 3, 0, 1)));
        calls.add(new Call("read(0, 0, 0, 21)", BAD, x -> x.read(0, 0, 0, 21)));
        return calls;
    }

    private static void refused(String name, Supplier<EightWires> make, List<Call> first, List<Call> second) {
        String due = Portrait.of(make.get()).toString();
        List<Call> calls = new ArrayList<>(first);
        calls.addAll(second);
        for (Call c : calls) {
            EightWires x = make.get();
            Check.due(name + ": " + c.name, c.answer.applyAsInt(x), c.due);
            Check.same(name + " behind " + c.name, Portrait.of(x).toString(), due);
        }
    }

    /** Reads that are refused for what the sheet holds, on objects that are alike but for one read. */
    private static void badReads() {
        int[][] sheets = {{-21, 1, 9, 0, 9}, {-20, 1, 256, 1, 1}, {FULL, 1, 9, 400, 9}, {-21, 1, 9, 401, 9}};
        for (int[] s : sheets) {
            Supplier<EightWires> make = () -> {
                EightWires x = Portrait.rich();
                Portrait.sheet(x, 3, 2, s[1], s[2], s[3], s[4]);
                return x;
            };
            refused("a sheet", make, List.of(new Call("read", s[0], x -> x.read(3, 2, 0, 2))), List.of());
        }
    }

    // ---- fractions

    /** High in so many of so many samples between two rises. */
    private static void fraction(int high, int of, int numerator, int denominator) {
        EightWires x = Check.level(1, 0);
        x.see(high, 255);
        x.see(of - high, 0);
        x.see(1, 255);
        Check.due(high + " by " + of + ": 0", x.duty(7, 0), numerator);
        Check.due(high + " by " + of + ": 1", x.duty(7, 1), denominator);
    }

    private static void fractions() {
        Sentences.terms("Fractions are in lowest terms, told as 0 the numerator, 1 the denominator, which is above 0 (0 is 0 by 1).");
        fraction(1, 2, 1, 2);
        fraction(2, 4, 1, 2);
        fraction(199, 398, 1, 2);
        fraction(1, 398, 1, 398);
        fraction(397, 398, 397, 398);
        fraction(233, 377, 233, 377);
        fraction(144, 233, 144, 233);
        fraction(256, 384, 2, 3);
        fraction(360, 396, 10, 11);
        fraction(17, 289, 1, 17);
        fraction(361, 380, 19, 20);
        fraction(2, 398, 1, 199);
        for (int of = 2; of <= 398; of += 3) {
            fraction(1, of, 1, of);
            fraction(of - 1, of, of - 1, of);
        }
    }

    private static void dividedDown() {
        Sentences.terms("Divided down is to the next whole number below.");
        for (int l = 3; l <= 41; l += 2) {
            // Half of an odd rate: the stop is at 9 times l and that.
            int stop = 9 * l + (l - 1) / 2;
            EightWires x = Check.level(stop, 0);
            Check.due("no stop at " + l, x.serial(0, l, 1), 0);
            x.see(1, 255);
            Check.due("a stop at " + l, x.serial(0, l, 0), 1);
        }
    }

    // ---- how long an object is used

    private static void mostCalls() {
        Sentences.use("An object is used for at most 512 calls after it has been made; what later calls answer is free.");
        EightWires x = new EightWires();
        for (int i = 1; i <= 400; i++) {
            Check.due("call " + i, x.see(1, i % 256), i);
        }
        for (int i = 401; i < MOST_CALLS; i++) {
            Check.due("call " + i, x.at(i - 401), (i - 400) % 256);
        }
        Check.due("call 512", x.at(399), 400 % 256);
        EightWires y = new EightWires();
        for (int i = 1; i <= MOST_CALLS; i++) {
            int due = i % 51 == 0 ? 0 : i % 51 * 8;
            Check.due("call " + i, i % 51 == 0 ? y.text() : y.feed(0x2020202020202020L), due);
        }
    }
}
