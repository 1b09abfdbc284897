/** Promises 22 to 26: setup, tight, bits, serial, rate. */
final class LinesTest {
    private static final int NONE = EightWires.NONE;
    private static final int BAD = EightWires.BAD;

    private LinesTest() {
    }

    static void all() {
        setup();
        tight();
        bits();
        bitsLost();
        serial();
        serialEdges();
        rate();
    }

    private static void setup(EightWires x, int c, int d, int... due) {
        for (int what = 0; what < 4; what++) {
            Check.due("setup " + c + " " + d + " " + what, x.setup(c, d, what), due[what]);
        }
    }

    private static void setup() {
        EightWires x = Check.wired(
                "...#...#....#.",
                "#.........#...",
                "..............",
                ".......#......");
        // wire 1 changes in samples 1, 10 and 11
        setup(x, 0, 1, 1, 12, 3, 7);
        setup(x, 0, 2, NONE, NONE, NONE, NONE);
        setup(x, 2, 1, NONE, NONE, NONE, NONE);
        // at once is ahead by 0, and not behind
        setup(x, 0, 3, 0, 7, 1, 7);
        setup(x, 0, 0, 0, 3, 1, 3);
        // wire 1 rises in sample 10 alone
        setup(x, 1, 0, 2, 10, 2, 10);
        setup(Check.wired("#.#.", ".#.."), 0, 1, 0, 2, NONE, NONE);
        setup(Check.wired(".#..", "...#"), 0, 1, NONE, NONE, 2, 1);
        // of equal ones the first
        setup(Check.wired("..#....#...", ".#####...##"), 0, 1, 1, 2, 2, 7);
        setup(Check.wired(".#..#..", "..#..#."), 0, 1, 1, 4, 1, 1);
        setup(new EightWires(), 0, 1, NONE, NONE, NONE, NONE);
        int[][] bad = {{-1, 0, 0}, {8, 0, 0}, {0, -1, 0}, {0, 8, 0}, {0, 0, -1}, {0, 0, 4}};
        for (int[] b : bad) {
            Check.due("setup refused", x.setup(b[0], b[1], b[2]), BAD);
        }
    }

    private static void tight() {
        EightWires x = Check.wired(
                "...#...#....#.",
                "#.........#...");
        // ahead 2, 6, 1; behind 7, 3, not told
        int[][] due = {{0, 0, 0}, {1, 0, 0}, {2, 0, 1}, {3, 0, 2}, {7, 0, 3}, {6, 0, 2}, {0, 3, 0}, {0, 4, 1},
            {0, 8, 2}, {0, 400, 2}, {400, 400, 3}, {2, 4, 2}, {3, 8, 3}, {3, 4, 3}};
        for (int[] d : due) {
            Check.due("tight " + d[0] + " " + d[1], x.tight(0, 1, d[0], d[1]), d[2]);
        }
        Check.due("tight of itself", x.tight(0, 0, 1, 0), 3);
        Check.due("tight of no change", x.tight(0, 2, 400, 400), 0);
        int[][] bad = {{-1, 0, 0, 0}, {8, 0, 0, 0}, {0, -1, 0, 0}, {0, 8, 0, 0}, {0, 0, -1, 0}, {0, 0, 401, 0},
            {0, 0, 0, -1}, {0, 0, 0, 401}};
        for (int[] b : bad) {
            Check.due("tight refused", x.tight(b[0], b[1], b[2], b[3]), BAD);
        }
        Check.due("tight of none", new EightWires().tight(0, 1, 9, 9), 0);
    }

    private static void bits() {
        // the rises of the clock bring 1 0 1 1 0 0 1 0, then 1 1
        EightWires x = Check.wired(
                ".#.#.#.#.#.#.#.#.#.#.",
                "##..####....##..####.",
                ".....................");
        Check.due("bytes", x.bits(0, 1, 2, 0), 1);
        Check.due("lost", x.bits(0, 1, 2, 1), 0);
        Check.due("at the end", x.bits(0, 1, 2, 2), 2);
        Check.due("byte 0", x.bits(0, 1, 2, 10), 0xB2);
        Check.due("byte 1", x.bits(0, 1, 2, 11), BAD);
        for (int what : new int[] {-1, 3, 9, 35, Integer.MAX_VALUE, Integer.MIN_VALUE}) {
            Check.due("bits " + what, x.bits(0, 1, 2, what), BAD);
        }
        int[][] bad = {{-1, 0, 0}, {8, 0, 0}, {0, -1, 0}, {0, 8, 0}, {0, 0, -1}, {0, 0, 8}};
        for (int[] b : bad) {
            Check.due("bits refused", x.bits(b[0], b[1], b[2], 0), BAD);
        }
        EightWires y = new EightWires();
        Check.due("bits of none", y.bits(0, 1, 2, 0), 0);
        Check.due("byte of none", y.bits(0, 1, 2, 10), BAD);
        for (int i = 0; i < 200; i++) {
            y.see(1, 0);
            y.see(1, i / 8 % 2 == 0 ? 1 : 3);
        }
        Check.due("25 bytes", y.bits(0, 1, 2, 0), 25);
        Check.due("byte 23", y.bits(0, 1, 2, 33), 255);
        Check.due("byte 24", y.bits(0, 1, 2, 34), 0);
        Check.due("byte 25", y.bits(0, 1, 2, 35), BAD);
    }

    private static void bitsLost() {
        // three bits lost where s is high, a rise in there is none, then eight; then two more lost
        EightWires x = Check.wired(
                ".#.#.#.#.#.#.#.#.#.#.#.#.#.#..",
                "##########.##......#####......",
                "......####..................#.");
        Check.due("bytes", x.bits(0, 1, 2, 0), 1);
        Check.due("lost", x.bits(0, 1, 2, 1), 4);
        Check.due("at the end", x.bits(0, 1, 2, 2), 0);
        Check.due("byte 0", x.bits(0, 1, 2, 10), 0x8E);
        // s high in the very sample of a rise
        EightWires y = Check.wired(".#.#.#", "######", "...#..");
        Check.due("lost one", y.bits(0, 1, 2, 1), 1);
        Check.due("one left", y.bits(0, 1, 2, 2), 1);
        // where s fell, the sample ahead counts for a rise
        EightWires z = Check.wired("..##", "....", "##..");
        Check.due("a rise where s falls", z.bits(0, 1, 2, 2), 1);
    }

    /** A frame: a start, eight bits the lowest first, a stop; each of l samples. */
    private static String frame(int v, int l, boolean stop) {
        StringBuilder b = new StringBuilder(".".repeat(l));
        for (int k = 0; k < 8; k++) {
            b.append(((v >> k & 1) != 0 ? "#" : ".").repeat(l));
        }
        return b.append((stop ? "#" : ".").repeat(l)).toString();
    }

    private static void serial() {
        for (int l = 2; l <= 19; l++) {
            EightWires x = Check.wired("#" + frame(0x35, l, true) + frame(0xCA, l, true));
            Check.due("good at " + l, x.serial(0, l, 0), 2);
            Check.due("broken at " + l, x.serial(0, l, 1), 0);
            Check.due("byte 0 at " + l, x.serial(0, l, 10), 0x35);
            Check.due("byte 1 at " + l, x.serial(0, l, 11), 0xCA);
            Check.due("byte 2 at " + l, x.serial(0, l, 12), BAD);
        }
        EightWires x = Check.wired(frame(0x01, 4, true) + frame(0x80, 4, false) + "####" + frame(0xFF, 4, true));
        Check.due("good", x.serial(0, 4, 0), 2);
        Check.due("broken", x.serial(0, 4, 1), 1);
        Check.due("the first", x.serial(0, 4, 10), 1);
        Check.due("the broken one", x.serial(0, 4, 11), -5);
        Check.due("the third", x.serial(0, 4, 12), 255);
        for (int what : new int[] {-1, 2, 9, 13, Integer.MAX_VALUE, Integer.MIN_VALUE}) {
            Check.due("serial " + what, x.serial(0, 4, what), BAD);
        }
        int[][] bad = {{-1, 4}, {8, 4}, {0, 1}, {0, 51}, {0, -4}};
        for (int[] b : bad) {
            Check.due("serial refused", x.serial(b[0], b[1], 0), BAD);
        }
        Check.due("serial of none", new EightWires().serial(0, 2, 0), 0);
    }

    private static void serialEdges() {
        // the stop is sampled 9 times 4 and 2 behind the fall: 38
        String first = "#" + frame(0x55, 4, true);
        Check.due("the stop is the last sample", Check.wired(first.substring(0, 40)).serial(0, 4, 0), 1);
        EightWires x = Check.wired(first.substring(0, 39));
        Check.due("the stop is not there", x.serial(0, 4, 0), 0);
        Check.due("nor broken", x.serial(0, 4, 1), 0);
        Check.due("at 50 the stop is at 475", wide(400).serial(0, 50, 1), 0);
        Check.due("at 42 the stop is at 399", wide(400).serial(0, 42, 1), 1);
        Check.due("at 42 it is not", wide(399).serial(0, 42, 1), 0);
        // low in sample 0 begins a frame, low behind it does not without a fall
        EightWires y = Check.wired(".".repeat(80));
        Check.due("one broken", y.serial(0, 2, 1), 1);
        // the next one may begin right behind the sample of the stop
        EightWires z = Check.wired("#" + ".".repeat(18) + "##." + ".".repeat(17) + "##########");
        Check.due("the next is looked for behind the stop", z.serial(0, 2, 0), 2);
        Check.due("its bits", z.serial(0, 2, 11), 0);
        // a fall in the very sample of the stop breaks that frame and begins none
        EightWires v = Check.wired("#" + ".".repeat(18) + "#" + ".".repeat(40) + "#".repeat(20));
        Check.due("broken by a fall", v.serial(0, 2, 1), 1);
        Check.due("that begins none", v.serial(0, 2, 0), 0);
        // twenty frames at the most
        EightWires t = new EightWires();
        for (int i = 0; i < 20; i++) {
            t.see(19, 0);
            t.see(1, 1);
        }
        Check.due("twenty", t.serial(0, 2, 0), 20);
        Check.due("the twentieth", t.serial(0, 2, 29), 0);
        Check.due("no more", t.serial(0, 2, 30), BAD);
    }

    private static EightWires wide(int n) {
        EightWires x = new EightWires();
        x.see(n, 0);
        return x;
    }

    private static void rate(EightWires x, int... due) {
        for (int what = 0; what < 3; what++) {
            Check.due("rate " + what, x.rate(0, what), due[what]);
        }
    }

    private static void rate() {
        rate(new EightWires(), 2, 0, 0);
        rate(Check.wired("#".repeat(60)), 2, 0, 0);
        // all low: broken at every rate whose stop is there, up to 12 (114 behind)
        rate(wide(115), 13, 0, 0);
        rate(wide(400), 43, 0, 0);
        rate(Check.wired("#".repeat(5) + frame(0x55, 7, true) + frame(0xAA, 7, true) + frame(0x0F, 7, true)), 7, 3, 0);
        EightWires x = Check.wired("#");
        Check.due("rate what -1", x.rate(0, -1), BAD);
        Check.due("rate what 3", x.rate(0, 3), BAD);
        Check.due("rate of -1", x.rate(-1, 0), BAD);
        Check.due("rate of 8", x.rate(8, 0), BAD);
        rateByHand();
    }

    /** The best rate is the best of what serial() answers, whatever the wire is. */
    private static void rateByHand() {
        java.util.Random random = new java.util.Random(26);
        for (int n = 0; n < 60; n++) {
            EightWires x = new EightWires();
            for (int i = 0; i < 40; i++) {
                x.see(1 + random.nextInt(1 + n % 12), i % 2);
            }
            int best = 0;
            int score = Integer.MIN_VALUE;
            for (int l = 50; l >= 2; l--) {
                int s = x.serial(0, l, 0) * 1000 - x.serial(0, l, 1);
                if (s >= score) {
                    score = s;
                    best = l;
                }
            }
            rate(x, best, x.serial(0, best, 0), x.serial(0, best, 1));
        }
    }
}
