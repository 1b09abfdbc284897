/** What the tests share: counting answers, and feeding an object with texts and samples. */
final class Check {
    private static int passed = 0;
    private static int failed = 0;
    // The words of the document that are under test, told with what fails.
    private static String words = "";

    private Check() {
    }

    static void due(String what, long got, long want) {
        if (got == want) {
            passed++;
        } else {
            failed++;
            System.out.println(words + what + " answered " + got + ", due is " + want);
        }
    }

    static void words(String now) {
        words = now;
    }

    /** How many answers were looked at so far. */
    static int looked() {
        return passed + failed;
    }

    /** Numbers that are not within bounds: right beside them, and as far off as an int goes. */
    static int[] outside(int low, int high) {
        int[] near = {low - 1, low - 2, low - 10, low - 256, low - 65536, high + 1, high + 2, high + 10, high + 256,
            high + 65536, Integer.MIN_VALUE, Integer.MIN_VALUE + 1, Integer.MIN_VALUE + high, Integer.MAX_VALUE,
            Integer.MAX_VALUE - 1, Integer.MAX_VALUE - 10};
        return java.util.Arrays.stream(near).filter(n -> n < low || n > high).toArray();
    }

    /** A call with one number left open answers due for every number outside its bounds. */
    static void refuses(String call, int low, int high, int due, java.util.function.IntUnaryOperator answer) {
        for (int n : outside(low, high)) {
            due(call + " with " + n, answer.applyAsInt(n), due);
        }
    }

    /** An object with n samples of v. */
    static EightWires level(int n, int v) {
        EightWires x = new EightWires();
        x.see(n, v);
        return x;
    }

    /** A text on a new object is taken, with so many lines. */
    static void lines(String text, int lines) {
        EightWires x = new EightWires();
        tape(x, text);
        due("text '" + text + "'", x.text(), lines);
        due("fault of '" + text + "'", x.fault(), 0);
        due("tape behind '" + text + "'", x.count(2), 0);
    }

    /** A text on a new object has a fault at a place. */
    static void faulty(String text, int fault, int place) {
        EightWires x = new EightWires();
        tape(x, text);
        due("text '" + text + "'", x.text(), -10 - place);
        due("fault of '" + text + "'", x.fault(), fault);
        due("tape behind '" + text + "'", x.count(2), 0);
    }

    static boolean finish() {
        System.out.println(passed + " passed, " + failed + " failed");
        return failed == 0;
    }

    /** Feeds the bytes of a text behind an empty tape, eight at a time. */
    static void tape(EightWires x, String text) {
        for (int i = 0; i < text.length(); i += 8) {
            long v = 0;
            for (int j = i; j < i + 8; j++) {
                v = v << 8 | (j < text.length() ? text.charAt(j) : 'Z');
            }
            x.feed(v);
        }
        x.end(text.length());
    }

    static EightWires told(String text) {
        EightWires x = new EightWires();
        tell(x, text);
        return x;
    }

    static void tell(EightWires x, String text) {
        tape(x, text);
        int lines = x.text();
        due("the text '" + text + "' is taken", lines < 0 ? 0 : 1, 1);
    }

    /** Samples behind the trace; those alike side by side come in one call. */
    static void see(EightWires x, int... samples) {
        int from = 0;
        for (int i = 1; i <= samples.length; i++) {
            if (i == samples.length || samples[i] != samples[from]) {
                x.see(i - from, samples[from]);
                from = i;
            }
        }
    }

    /** Samples told wire by wire, wire 0 first: '#' is high, anything else is low. */
    static void wires(EightWires x, String... wires) {
        int[] samples = new int[wires[0].length()];
        for (int w = 0; w < wires.length; w++) {
            for (int i = 0; i < samples.length; i++) {
                samples[i] |= wires[w].charAt(i) == '#' ? 1 << w : 0;
            }
        }
        see(x, samples);
    }

    static EightWires wired(String... wires) {
        EightWires x = new EightWires();
        wires(x, wires);
        return x;
    }

    /** One wire of the trace, told as wires() takes it. */
    static String wire(EightWires x, int w) {
        StringBuilder b = new StringBuilder();
        for (int i = 0; i < x.count(0); i++) {
            b.append((x.at(i) >> w & 1) != 0 ? '#' : '.');
        }
        return b.toString();
    }

    static void same(String what, String got, String want) {
        due(what + ": " + got + " for " + want, got.equals(want) ? 1 : 0, 1);
    }
}
