import java.util.ArrayList;
import java.util.List;

/** Every short trace, every short text behind some beginnings, every small program: all answers compared with Model. */
final class SweepTest {
    private static final String[] TOKENS = {"state", "keep", "depth", "ahead", "times", "go", "hit", "high", "is", "after",
        "names", ";", "|", "&", "0", "1", "9", "300", "1000", "."};
    private static final String[] BEGINNINGS = {"", "state", "state low 1 & rise 2", "state fall 3 & not 4 & after 5",
        "state is 1 go", "state is 1 go 0 | is 2 go hit | is 3 times 4 go 0", "keep low 0", "keep is 5; depth 6; ahead 7;",
        "state is 1 go hit;".repeat(7), "state is 1 go 7;".repeat(8), "ahead 99;", "ahead 100"};
    private static final String[] ENDINGS = {"", " go 0;", ";"};
    private static final int CALLS_OF_ONE = 450;

    private EightWires x = new EightWires();
    private Model m = new Model();
    private int calls = 0;
    private String now = "";

    private SweepTest() {
    }

    static void all() {
        SweepTest sweep = new SweepTest();
        sweep.traces();
        sweep.images();
        sweep.texts();
        sweep.programs();
    }

    private void renew() {
        x = new EightWires();
        m = new Model();
        calls = 0;
    }

    private void same(String call, int got, int want) {
        calls++;
        if (got != want) {
            Check.due(now + ": " + call, got, want);
        } else {
            Check.due(call, got, want);
        }
    }

    /** The samples of a trace are the figures of a number, to the base of how many values there are. */
    private void see(int number, int size, int values) {
        int rest = number;
        StringBuilder b = new StringBuilder("trace");
        for (int i = 0; i < size; i++) {
            b.append(' ').append(rest % values);
            same("see", x.see(1, rest % values), m.see(1, rest % values));
            rest /= values;
        }
        now = b.toString();
    }

    private void cut() {
        same("cut", x.cut(0), m.cut(0));
    }

    private static int power(int base, int exponent) {
        int p = 1;
        for (int i = 0; i < exponent; i++) {
            p *= base;
        }
        return p;
    }

    /** All traces of up to 6 samples of two wires, and of up to 11 samples of one wire. */
    private void traces() {
        for (int size = 0; size <= 6; size++) {
            for (int number = 0; number < power(4, size); number++) {
                renew();
                see(number, size, 4);
                two(size);
            }
        }
        for (int size = 7; size <= 11; size++) {
            for (int number = 0; number < power(2, size); number++) {
                renew();
                see(number, size, 2);
                one(0, size);
            }
        }
    }

    private void two(int size) {
        for (int c = 0; c < 2; c++) {
            int d = 1 - c;
            for (int what = 0; what < 4; what++) {
                same("setup", x.setup(c, d, what), m.setup(c, d, what));
                same("setup of itself", x.setup(c, c, what), m.setup(c, c, what));
                same("values", x.values(what), m.values(what));
            }
            for (int n = 0; n < 4; n++) {
                same("tight ahead", x.tight(c, d, n, 0), m.tight(c, d, n, 0));
                same("tight behind", x.tight(c, d, 0, n), m.tight(c, d, 0, n));
                same("tight", x.tight(c, d, n, n), m.tight(c, d, n, n));
            }
            for (int what = 0; what < 3; what++) {
                same("bits", x.bits(c, d, 7, what), m.bits(c, d, 7, what));
                same("bits, some lost", x.bits(c, c, d, what), m.bits(c, c, d, what));
            }
            one(c, size);
            cut();
            same("back", x.back(0), m.back(0));
        }
    }

    private void one(int w, int size) {
        for (int level = 0; level < 2; level++) {
            boolean fall = level == 0;
            same("edges", x.edges(w, fall), m.edges(w, fall));
            same("edge", x.edge(w, fall, 1), m.edge(w, fall, 1));
            for (int what = 0; what < 5; what++) {
                same("pulse", x.pulse(w, level, what), m.pulse(w, level, what));
            }
            same("duty", x.duty(w, level), m.duty(w, level));
        }
        for (int k = 1; k < 4; k++) {
            for (int f = 0; f < k; f++) {
                same("seen", x.seen(k, f, 0), m.seen(k, f, 0));
                same("edges seen", x.seen(k, f, 1), m.seen(k, f, 1));
                same("edges missed", x.seen(k, f, 2), m.seen(k, f, 2));
            }
        }
        same("widest", x.widest(), m.widest());
        same("runs", x.runs(), m.runs());
        for (int i = 0; i < size; i++) {
            same("fills", x.fills(2, i), m.fills(2, i));
        }
        same("keep", x.keep(0), m.keep(0));
        for (int n = 1; n < 5; n++) {
            same("back", x.back(0), m.back(0));
            same("shorter", x.shorter(w, n), m.shorter(w, n));
            same("smooth", x.smooth(n), m.smooth(n));
            for (int i = 0; i < size; i++) {
                same("at", x.at(i), m.at(i));
            }
        }
    }

    /** All traces of up to 3 samples laid on all such images. */
    private void images() {
        for (int of = 0; of <= 3; of++) {
            for (int image = 0; image < power(3, of); image++) {
                renew();
                see(image, of, 3);
                same("keep", x.keep(1), m.keep(1));
                for (int size = 0; size <= 3; size++) {
                    for (int number = 0; number < power(3, size); number++) {
                        cut();
                        see(number, size, 3);
                        lay();
                    }
                }
            }
        }
    }

    private void lay() {
        for (int shift = -4; shift <= 4; shift++) {
            same("unlike by " + shift, x.unlike(1, shift), m.unlike(1, shift));
        }
        same("shift", x.shift(1, 0), m.shift(1, 0));
        same("unlike by that", x.shift(1, 1), m.shift(1, 1));
        if (calls > CALLS_OF_ONE) {
            int size = x.back(1);
            List<Integer> image = new ArrayList<>();
            for (int i = 0; i < size; i++) {
                image.add(x.at(i));
            }
            renew();
            for (int v : image) {
                same("see", x.see(1, v), m.see(1, v));
            }
            same("keep", x.keep(1), m.keep(1));
        }
    }

    /** All rows of up to 3 tokens behind each beginning, with each ending. */
    private void texts() {
        List<String> rows = new ArrayList<>(List.of(""));
        for (int from = 0, n = 0; n < 3; n++) {
            int to = rows.size();
            for (; from < to; from++) {
                for (String token : TOKENS) {
                    rows.add(rows.get(from) + " " + token);
                }
            }
        }
        for (String beginning : BEGINNINGS) {
            for (String row : rows) {
                for (String ending : ENDINGS) {
                    text(beginning + row + ending);
                }
            }
        }
    }

    private void text(String text) {
        if (calls > CALLS_OF_ONE) {
            renew();
        }
        now = text;
        tape(text);
        same("text", x.text(), m.text());
        same("fault", x.fault(), m.fault());
        for (int what = 0; what < 4; what++) {
            same("rule", x.rule(what), m.rule(what));
        }
    }

    private void tape(String text) {
        for (int i = 0; i < text.length(); i += 8) {
            long v = 0;
            for (int j = i; j < i + 8; j++) {
                v = v << 8 | (j < text.length() ? text.charAt(j) : ' ');
            }
            same("feed", x.feed(v), m.feed(v));
        }
        same("end", x.end(text.length()), m.end(text.length()));
    }

    /** All programs of two states with one or two branches of few terms, with all traces of 5 samples of one wire. */
    private void programs() {
        List<String> conds = List.of("high 0", "low 0", "rise 0", "fall 0", "after 1", "after 2 & is 1", "not 1");
        List<String> firsts = new ArrayList<>();
        List<String> seconds = new ArrayList<>();
        for (String cond : conds) {
            for (String go : List.of(" go 0", " times 2 go 1", " go hit", " times 3 go 0")) {
                firsts.add("state rise 0 go 1 | " + cond + go + ";");
                firsts.add("state " + cond + go + ";");
                seconds.add("state " + cond + go + " | after 3 go hit;");
            }
        }
        for (String first : firsts) {
            for (String second : seconds) {
                program(first + second + "depth 3; ahead 1; keep after 1;");
            }
        }
    }

    private void program(String text) {
        renew();
        tape(text);
        same("text '" + text + "'", x.text(), m.text());
        for (int number = 0; number < 32; number++) {
            cut();
            see(number, 5, 2);
            now = text + " " + now;
            same("hit", x.run(0), m.run(0));
            same("state at the end", x.run(1), m.run(1));
            same("entered", x.run(2), m.run(2));
            same("looked", x.run(3), m.run(3));
            same("state behind", x.state(number % 5), m.state(number % 5));
            same("stored", x.stored(number % 3), m.stored(number % 3));
        }
    }
}
