/** What the tests share: counting answers, and feeding an object with texts and samples. */
final class Check {
    private static int passed = 0;
    private static int failed = 0;

    private Check() {
    }

    static void due(String what, long got, long want) {
        if (got == want) {
            passed++;
        } else {
            failed++;
            System.out.println(what + " answered " + got + ", due is " + want);
        }
    }

    static boolean finish() {
        System.out.println(passed + " passed, " + failed + " failed");
        return failed == 0;
    }

    /** Feeds the bytes of a text behind an empty tape, eight at a time. */
    static void tape(EightWires x, String text) {
        for (int i = 0; i < text.length(); i += 8) {
            long v = 0;
            for (int j = i; j < i + 8; j++) {
                v = v << 8 | (j < text.length() ? text.charAt(j) : 'Z');
            }
            x.feed(v);
        }
        x.end(text.length());
    }

    static EightWires told(String text) {
        EightWires x = new EightWires();
        tell(x, text);
        return x;
    }

    static void tell(EightWires x, String text) {
        tape(x, text);
        int lines = x.text();
        due("the text '" + text + "' is taken", lines < 0 ? 0 : 1, 1);
    }

    /** Samples behind the trace; those alike side by side come in one call. */
    static void see(EightWires x, int... samples) {
        int from = 0;
        for (int i = 1; i <= samples.length; i++) {
            if (i == samples.length || samples[i] != samples[from]) {
                x.see(i - from, samples[from]);
                from = i;
            }
        }
    }

    /** Samples told wire by wire, wire 0 first: '#' is high, anything else is low. */
    static void wires(EightWires x, String... wires) {
        int[] samples = new int[wires[0].length()];
        for (int w = 0; w < wires.length; w++) {
            for (int i = 0; i < samples.length; i++) {
                samples[i] |= wires[w].charAt(i) == '#' ? 1 << w : 0;
            }
        }
        see(x, samples);
    }

    static EightWires wired(String... wires) {
        EightWires x = new EightWires();
        wires(x, wires);
        return x;
    }

    /** One wire of the trace, told as wires() takes it. */
    static String wire(EightWires x, int w) {
        StringBuilder b = new StringBuilder();
        for (int i = 0; i < x.count(0); i++) {
            b.append((x.at(i) >> w & 1) != 0 ? '#' : '.');
        }
        return b.toString();
    }

    static void same(String what, String got, String want) {
        due(what + ": " + got + " for " + want, got.equals(want) ? 1 : 0, 1);
    }
}
