import java.lang.reflect.Method;
import java.util.ArrayList;
import java.util.Collections;
import java.util.List;
import java.util.Set;

/** Every call with every mixture of numbers at and beside the bounds, in several conditions, compared with Model. */
final class GridTest {
    private static final int LOWEST = Integer.MIN_VALUE;
    private static final int HIGHEST = Integer.MAX_VALUE;
    private static final int[] ALL = {LOWEST, LOWEST + 1, LOWEST + 10, -401, -400, -41, -40, -2, -1, 0, 1, 2, 3, 4, 5, 7, 8, 9, 10, 11,
        12, 13, 15, 16, 17, 18, 19, 20, 21, 22, 23, 29, 30, 34, 35, 39, 40, 41, 50, 51, 99, 100, 127, 128, 255, 256, 398, 399, 400,
        401, 408, 409, 410, 65535, 65536, HIGHEST - 10, HIGHEST - 1, HIGHEST};
    private static final int[] SOME = {LOWEST, -401, -1, 0, 1, 2, 3, 4, 7, 8, 10, 12, 13, 20, 22, 40, 41, 50, 51, 255, 256, 400, 401,
        HIGHEST};
    private static final int[] FEW = {LOWEST, -1, 0, 1, 2, 3, 4, 7, 8, 10, 20, 21, 400, 401, HIGHEST};
    private static final Set<String> CHANGES = Set.of("feed", "end", "see", "cut", "put", "smooth", "back", "sheet", "lay", "read");
    // These change something even where they answer a number below 0.
    private static final Set<String> ALWAYS_CHANGES = Set.of("text", "keep");
    private static final int CALLS_OF_ONE = 400;

    private static final List<List<String>> CONDITIONS = List.of(
            List.of(),
            List.of("see 1 255", "keep 0", "sheet 0 0 1"),
            some(),
            full());

    private GridTest() {
    }

    private static List<String> some() {
        List<String> calls = new ArrayList<>();
        calls.add("tape depth 9; ahead 3; keep high 0; state rise 0 times 2 go 1 | fall 1 go hit; state after 3 go hit | is 2 go 0;");
        calls.add("text");
        int[] samples = {0, 1, 1, 3, 2, 0, 1, 1, 1, 0, 255, 255, 254, 0, 1, 2, 1, 0, 3, 4};
        for (int v : samples) {
            calls.add("see 1 " + v);
        }
        calls.add("keep 1");
        calls.add("put 4 9");
        calls.add("sheet 0 0 8");
        calls.add("sheet 1 1 5");
        calls.add("sheet 2 2 40");
        for (int i = 0; i < 8; i++) {
            calls.add("lay 0 " + i + " " + (i + 1));
            calls.add("lay 1 " + i + " " + 20 * (i + 1));
            calls.add("lay 2 " + i + " " + (i == 6 ? -1 : 60 * i + 1));
        }
        calls.add("read 0 0 7 1");
        calls.add("tape depth 0;");
        calls.add("text");
        calls.add("tape depth 5; ahead 4;");
        return calls;
    }

    private static List<String> full() {
        List<String> calls = new ArrayList<>();
        calls.add("tape depth 400; ahead 399;" + "state is 1 go 7;".repeat(7) + "state is 3 go hit | is 2 go 0 | not 9 times 99 go 7;");
        calls.add("text");
        calls.addAll(Collections.nCopies(10, "see 19 254"));
        for (int i = 0; i < 10; i++) {
            calls.add("put " + (19 * i + 18) + " 255");
        }
        calls.add("see 209 1");
        calls.add("keep 0");
        calls.add("put 200 9");
        calls.add("see 1 3");
        calls.add("keep 1");
        calls.add("put 2 85");
        calls.add("sheet 3 2 40");
        calls.add("lay 3 0 1");
        calls.add("tape " + " ".repeat(400));
        return calls;
    }

    static void all() {
        for (List<String> condition : CONDITIONS) {
            for (Method method : Both.methods()) {
                List<Object[]> mixtures = mixtures(method.getParameterTypes());
                boolean changes = CHANGES.contains(method.getName());
                boolean always = ALWAYS_CHANGES.contains(method.getName());
                Both both = new Both(condition);
                for (int n = 0; n < mixtures.size(); n++) {
                    int answer = both.ask(method, mixtures.get(n));
                    // What changes nothing, or was refused, leaves the object for the next one, if it is not used too often.
                    if (always || changes && answer >= 0 || n % CALLS_OF_ONE == CALLS_OF_ONE - 1) {
                        both = new Both(condition);
                    }
                }
            }
        }
    }

    private static List<Object[]> mixtures(Class<?>[] types) {
        int[] numbers = types.length <= 1 ? ALL : types.length <= 2 ? SOME : FEW;
        List<Object[]> mixtures = new ArrayList<>();
        mixtures.add(new Object[0]);
        for (Class<?> type : types) {
            List<Object[]> longer = new ArrayList<>();
            for (Object[] ahead : mixtures) {
                for (Object value : values(type, numbers)) {
                    Object[] behind = java.util.Arrays.copyOf(ahead, ahead.length + 1);
                    behind[ahead.length] = value;
                    longer.add(behind);
                }
            }
            mixtures = longer;
        }
        return mixtures;
    }

    private static List<Object> values(Class<?> type, int[] numbers) {
        List<Object> values = new ArrayList<>();
        if (type == boolean.class) {
            values.add(false);
            values.add(true);
        } else if (type == long.class) {
            values.addAll(List.of(0L, 1L, -1L, Long.MIN_VALUE, Long.MAX_VALUE, 0x2020202020202020L, 0x646570746820373BL));
        } else {
            for (int n : numbers) {
                values.add(n);
            }
        }
        return values;
    }
}
