/** Promises 8 to 11: see, cut, at, put. */
final class SamplesTest {
    private SamplesTest() {
    }

    static void all() {
        see();
        cut();
        at();
        put();
    }

    private static void see() {
        EightWires x = new EightWires();
        Check.due("see one", x.see(1, 255), 1);
        Check.due("see more", x.see(3, 0), 4);
        for (int n : new int[] {0, -1, 401, Integer.MAX_VALUE, Integer.MIN_VALUE}) {
            Check.due("see n " + n, x.see(n, 0), EightWires.BAD);
        }
        for (int v : new int[] {-1, 256, Integer.MAX_VALUE, Integer.MIN_VALUE}) {
            Check.due("see v " + v, x.see(1, v), EightWires.BAD);
        }
        Check.due("BAD ahead of FULL", x.see(400, 256), EightWires.BAD);
        Check.due("see too many", x.see(397, 0), EightWires.FULL);
        Check.due("refused", x.count(0), 4);
        Check.due("see up to 400", x.see(396, 7), 400);
        Check.due("see on 400", x.see(1, 7), EightWires.FULL);
        Check.due("the first", x.at(0), 255);
        Check.due("the second", x.at(1), 0);
        Check.due("the fifth", x.at(4), 7);
        Check.due("the last", x.at(399), 7);
        Check.due("400 at once", new EightWires().see(400, 1), 400);
    }

    private static void cut() {
        EightWires x = new EightWires();
        Check.due("cut(0) of none", x.cut(0), 0);
        Check.see(x, 1, 2, 3, 4);
        Check.due("cut below 0", x.cut(-1), EightWires.BAD);
        Check.due("cut above", x.cut(5), EightWires.BAD);
        Check.due("cut refused", x.count(0), 4);
        Check.due("cut(4)", x.cut(4), 4);
        Check.due("cut(2)", x.cut(2), 4);
        Check.due("the last is there", x.at(1), 2);
        Check.due("the next is not", x.at(2), EightWires.BAD);
        Check.due("see behind the cut", x.see(1, 9), 3);
        Check.due("it is new", x.at(2), 9);
        Check.due("cut(0)", x.cut(0), 3);
    }

    private static void at() {
        EightWires x = new EightWires();
        Check.due("at of none", x.at(0), EightWires.BAD);
        Check.see(x, 0, 128, 255);
        Check.due("at 0", x.at(0), 0);
        Check.due("at 1", x.at(1), 128);
        Check.due("at 2", x.at(2), 255);
        Check.due("at 3", x.at(3), EightWires.BAD);
        Check.due("at -1", x.at(-1), EightWires.BAD);
        Check.due("at far", x.at(Integer.MAX_VALUE), EightWires.BAD);
        Check.due("at far below", x.at(Integer.MIN_VALUE), EightWires.BAD);
    }

    private static void put() {
        EightWires x = new EightWires();
        Check.due("put on none", x.put(0, 1), EightWires.BAD);
        Check.see(x, 5, 6, 7);
        Check.due("put", x.put(1, 255), 6);
        Check.due("put again", x.put(1, 0), 255);
        Check.due("put -1", x.put(-1, 0), EightWires.BAD);
        Check.due("put 3", x.put(3, 0), EightWires.BAD);
        Check.due("put v below", x.put(0, -1), EightWires.BAD);
        Check.due("put v above", x.put(0, 256), EightWires.BAD);
        Check.due("at 0", x.at(0), 5);
        Check.due("at 1", x.at(1), 0);
        Check.due("at 2", x.at(2), 7);
    }
}
