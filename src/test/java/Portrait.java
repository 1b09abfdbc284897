import java.util.ArrayList;
import java.util.List;

/** Objects in known conditions, and all that can be asked of one, so that two can be compared. */
final class Portrait {
    private Portrait() {
    }

    /** Some of everything: two states, a keep, a trace, one image, three sheets, bytes on the tape, both faults. */
    static EightWires rich() {
        EightWires x = Check.told("depth 9; ahead 3; keep high 0 & after 2;"
                + "state rise 0 times 2 go 1 | fall 1 go hit; state after 3 go hit | is 2 & not 1 & low 7 times 99 go 0;");
        Check.tape(x, "depth 0;");
        Check.due("rich: a fault", x.text(), -16);
        Check.see(x, 9, 9, 8, 128, 0);
        Check.due("rich: an image", x.keep(0), EightWires.NONE);
        x.cut(0);
        Check.see(x, 0, 1, 1, 3, 2, 0, 1, 1, 1, 0, 255, 255, 254, 0, 1);
        sheet(x, 0, 0, 1, 127, 2, 66, 3, 4);
        sheet(x, 1, 1, 5, 255, 6);
        sheet(x, 2, 2, 7, 99, 255, 1);
        Check.due("rich: a read that is torn", x.read(2, 2, 3, 1), 0);
        Check.tape(x, "depth 77; ahe");
        return x;
    }

    /** What can be full is full: the trace and the tape; both images are there, and eight states. */
    static EightWires full() {
        EightWires x = Check.told("depth 400; ahead 399;" + "state is 1 go 7;".repeat(7) + "state is 3 go hit;");
        x.see(7, 200);
        Check.due("full: image 1", x.keep(1), EightWires.NONE);
        Check.due("full: the trace", x.see(393, 3), 400);
        Check.due("full: image 0", x.keep(0), EightWires.NONE);
        x.put(399, 1);
        x.put(0, 255);
        sheet(x, 0, 0, 1, 2);
        Check.tape(x, " ".repeat(392) + "depth 5;");
        Check.due("full: the tape", x.count(2), 400);
        return x;
    }

    static void sheet(EightWires x, int k, int lane, int... cells) {
        x.sheet(k, lane, cells.length);
        for (int i = 0; i < cells.length; i++) {
            x.lay(k, i, cells[i]);
        }
    }

    /** All that can be asked. It changes the object, which is of no more use then. */
    static List<Integer> of(EightWires x) {
        List<Integer> p = new ArrayList<>(told(x));
        p.add(x.fault());
        p.add(x.torn());
        p.add(x.count(2));
        p.addAll(held(x));
        p.add(x.text());
        p.add(x.fault());
        for (int what = 0; what < 4; what++) {
            p.add(x.rule(what));
        }
        return p;
    }

    /** What a text told, and what it does with the trace; nothing is changed. */
    static List<Integer> told(EightWires x) {
        List<Integer> p = new ArrayList<>();
        for (int what : new int[] {0, 1, 2, 3, 10, 11, 12, 13, 14, 15, 16, 17}) {
            p.add(x.rule(what));
        }
        for (int s = 0; s < x.rule(0); s++) {
            for (int b = 0; b < x.rule(10 + s); b++) {
                for (int what : new int[] {0, 1, 2, 10, 20, 11, 21, 12, 22}) {
                    p.add(x.branch(s, b, what));
                }
            }
        }
        for (int what = 0; what < 4; what++) {
            p.add(x.run(what));
        }
        // What keep tells is seen by what it finds.
        for (int i = 0; i < Math.min(x.count(0), 20); i++) {
            p.add(x.next(i));
        }
        return p;
    }

    /** The trace, the images, the sheets. It changes them. */
    static List<Integer> held(EightWires x) {
        List<Integer> p = new ArrayList<>();
        p.add(x.count(0));
        p.add(x.count(1));
        p.add(x.count(3));
        samples(x, p);
        for (int k = 0; k < 2; k++) {
            p.add(x.back(k));
            samples(x, p);
        }
        for (int k = 0; k < 4; k++) {
            cells(x, k, p);
        }
        return p;
    }

    /** The trace, run by run: a call for each sample would be too many. */
    private static void samples(EightWires x, List<Integer> p) {
        int size = x.count(0);
        for (int i = 0; i < size; i += Math.max(1, p.get(p.size() - 1))) {
            p.add(x.at(i));
            p.add(x.fills(1, i));
        }
    }

    private static void cells(EightWires x, int k, List<Integer> p) {
        for (int lane = 0; lane < 3; lane++) {
            x.cut(0);
            int came = x.read(k, lane, 0, 1);
            p.add(came);
            p.add(x.torn());
            for (int i = 1; i < 40 && came != 0; i++) {
                p.add(x.count(0));
                p.add(x.at(0));
                x.cut(0);
                came = x.read(k, lane, i, 1);
            }
        }
        // Each cell alone, even the last one and those of an odd row.
        p.add(x.lay(k, 0, 1));
        p.add(x.lay(k, 5, 1));
    }
}
