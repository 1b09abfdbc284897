import java.lang.management.ManagementFactory;
import java.lang.reflect.Constructor;
import java.lang.reflect.Field;
import java.lang.reflect.Method;
import java.lang.reflect.Modifier;
import java.nio.file.Files;
import java.nio.file.Path;
import java.util.Arrays;
import java.util.HashSet;
import java.util.Set;
import java.util.TreeSet;
import java.util.regex.Matcher;
import java.util.regex.Pattern;

/** The face that the document tells, and what of LANGUAGE.md can be seen without reading the code. */
final class FormTest {
    private FormTest() {
    }

    static void all(Path path, Path document) throws Exception {
        String text = Files.readString(path);
        String told = Files.readString(document);
        face(toldFace(told));
        order(text, told);
        classesInside();
        source(text);
        room();
    }

    /** The methods that the document's face has, such as "edges(int,boolean)". */
    private static Set<String> toldFace(String told) {
        String block = told.substring(told.indexOf("```java"));
        block = block.substring(0, block.indexOf("}"));
        Set<String> methods = new TreeSet<>();
        Matcher m = Pattern.compile("public int (\\w+)\\((.*)\\);").matcher(block);
        while (m.find()) {
            methods.add(m.group(1) + "(" + m.group(2).replaceAll("(\\w+) \\w+", "$1").replace(" ", "") + ")");
        }
        Check.due("methods of the document's face", methods.size(), 39);
        yes("the constants are told", block.contains("public static final int BAD = -1, STATE = -2, FULL = -3, NONE = -4;"));
        yes("the constructor is told", block.contains("public EightWires();"));
        return methods;
    }

    /** Under the heads that the document tells stand the calls that it tells, in its order. */
    private static void order(String text, String told) {
        StringBuilder due = new StringBuilder();
        Matcher heads = Pattern.compile("Ahead of the calls (.*) the interface says: ---- (.*)\\.").matcher(told);
        while (heads.find()) {
            due.append(heads.group(2)).append(": ").append(heads.group(1).replace("`", "").replace(",", "")).append("; ");
        }
        StringBuilder found = new StringBuilder();
        Matcher lines = Pattern.compile("\\n    (?:// ---- (.*)|public int (\\w+)\\(.*)").matcher(text);
        String between = "";
        while (lines.find()) {
            if (lines.group(1) == null) {
                found.append(between).append(lines.group(2));
                between = " ";
            } else if (!lines.group(1).equals("what several calls share")) {
                found.append(found.length() == 0 ? "" : "; ").append(lines.group(1)).append(":");
                between = " ";
            }
        }
        Check.same("heads and calls", found.append("; ").toString(), due.toString());
    }

    private static void yes(String what, boolean so) {
        Check.due(what, so ? 1 : 0, 1);
    }

    private static void face(Set<String> told) {
        Set<String> found = new TreeSet<>();
        for (Method m : EightWires.class.getDeclaredMethods()) {
            String parameters = String.join(",",
                    Arrays.stream(m.getParameterTypes()).map(Class::getName).toArray(String[]::new));
            if (Modifier.isPublic(m.getModifiers())) {
                found.add(m.getName() + "(" + parameters + ")");
                yes(m.getName() + " answers an int", m.getReturnType() == int.class);
                yes(m.getName() + " is no static one", !Modifier.isStatic(m.getModifiers()));
            } else {
                yes(m.getName() + " is private", Modifier.isPrivate(m.getModifiers()));
            }
        }
        Check.same("the methods", found.toString(), told.toString());
        Set<String> constants = new TreeSet<>();
        for (Field f : EightWires.class.getDeclaredFields()) {
            if (Modifier.isPublic(f.getModifiers())) {
                constants.add(f.getName());
            } else {
                yes(f.getName() + " is private", Modifier.isPrivate(f.getModifiers()));
            }
        }
        Check.same("the constants", constants.toString(), "[BAD, FULL, NONE, STATE]");
        Check.due("BAD", EightWires.BAD, -1);
        Check.due("STATE", EightWires.STATE, -2);
        Check.due("FULL", EightWires.FULL, -3);
        Check.due("NONE", EightWires.NONE, -4);
        Constructor<?>[] constructors = EightWires.class.getDeclaredConstructors();
        Check.due("constructors", constructors.length, 1);
        yes("the constructor is public", Modifier.isPublic(constructors[0].getModifiers()));
        yes("the class is final", Modifier.isFinal(EightWires.class.getModifiers()));
        yes("the class is public", Modifier.isPublic(EightWires.class.getModifiers()));
    }

    private static void classesInside() {
        Set<String> names = new HashSet<>();
        for (Method m : EightWires.class.getDeclaredMethods()) {
            if (Modifier.isPublic(m.getModifiers())) {
                names.add(m.getName());
            }
        }
        Class<?>[] inside = EightWires.class.getDeclaredClasses();
        yes("at most twelve classes", inside.length + 1 <= 12);
        fewFields(EightWires.class);
        for (Class<?> c : inside) {
            yes(c.getName() + " is static", Modifier.isStatic(c.getModifiers()));
            fewFields(c);
            for (Method m : c.getDeclaredMethods()) {
                yes(c.getName() + "." + m.getName() + " bears no public name", !names.contains(m.getName()));
                yes(m.getName() + " takes at most seven", m.getParameterCount() <= 7);
            }
        }
    }

    private static void fewFields(Class<?> c) {
        int fields = 0;
        for (Field f : c.getDeclaredFields()) {
            boolean fixed = Modifier.isStatic(f.getModifiers());
            fields += fixed ? 0 : 1;
            yes(f.getName() + ", if static, is final", !fixed || Modifier.isFinal(f.getModifiers()));
        }
        yes(c.getName() + " has at most twenty fields", fields <= 20);
    }

    private static void source(String text) {
        String code = text.replaceAll("/\\*(?s:.*?)\\*/", "").replaceAll("//[^\n]*", "").replaceAll("\"[^\"\n]*\"", "\"\"");
        String[] words = {"this", "throw", "throws", "try", "catch", "finally", "synchronized", "assert", "package", "protected",
            "volatile", "native", "Object", "Exception", "var", "yield", "hashCode", "toString"};
        for (String word : words) {
            yes("no " + word, !Pattern.compile("\\b" + word + "\\b").matcher(code).find());
        }
        yes("no lambda", !code.contains("->"));
        yes("no method reference", !code.contains("::"));
        yes("no text by +", !Pattern.compile("\"\\s*\\+|\\+\\s*\"").matcher(code).find());
        yes("no static block", !Pattern.compile("\\bstatic\\s*\\{").matcher(code).find());
        Matcher imports = Pattern.compile("import ([^;]*);").matcher(code);
        while (imports.find()) {
            Check.same("import", imports.group(1), "java.util.Arrays");
        }
        // An object whose parts make nothing with what is handed to them hands out nothing while it is made.
        yes("own classes are made of nothing", !Pattern.compile("\\bnew [A-Z]\\w*\\([^)]").matcher(code).find());
        yes("ASCII alone", text.chars().allMatch(c -> c == '\n' || c >= ' ' && c < 127));
        shortMethods(code);
    }

    private static void shortMethods(String code) {
        Matcher m = Pattern.compile("\n( +)[a-zA-Z][^\n;=]*\\([^\n;]*\\) \\{\n(?s:.*?)\n\\1\\}").matcher(code);
        int methods = 0;
        while (m.find()) {
            methods++;
            int lines = m.group().split("\n").length;
            yes("sixty lines at most:" + m.group().lines().skip(1).findFirst().orElse(""), lines <= 60);
        }
        yes("methods were found", methods > 60);
    }

    /** No call makes anything: what a run makes is what its objects are made of. */
    private static void room() {
        com.sun.management.ThreadMXBean threads = (com.sun.management.ThreadMXBean) ManagementFactory.getThreadMXBean();
        long me = Thread.currentThread().getId();
        int turns = 50;
        for (int turn = 0; turn < 3; turn++) {
            EightWires[] all = new EightWires[turns];
            for (int i = 0; i < turns; i++) {
                all[i] = Check.told("state high 0 go hit; keep low 0; depth 9;");
                Check.wires(all[i], "..##..#.#.##", ".#.#..##...#");
                all[i].keep(0);
                all[i].sheet(0, 0, 9);
            }
            long before = threads.getThreadAllocatedBytes(me);
            for (EightWires x : all) {
                callAll(x);
            }
            long made = threads.getThreadAllocatedBytes(me) - before;
            // The first turns load and link what is used.
            yes("calls made " + made + " bytes", turn < 2 || made < 2000);
        }
    }

    private static void callAll(EightWires x) {
        x.feed(0x646570746820373BL);
        x.end(8);
        x.text();
        x.fault();
        x.rule(0);
        x.branch(0, 0, 0);
        x.see(3, 9);
        x.at(0);
        x.put(1, 3);
        x.run(0);
        x.state(3);
        x.stored(0);
        x.next(0);
        x.edges(0, true);
        x.edge(0, false, 1);
        x.pulse(0, 1, 1);
        x.duty(0, 0);
        x.shorter(0, 2);
        x.setup(0, 1, 0);
        x.tight(0, 1, 2, 2);
        x.bits(0, 1, 2, 0);
        x.serial(0, 2, 0);
        x.rate(0, 0);
        x.seen(2, 1, 2);
        x.widest();
        x.runs();
        x.fills(2, 0);
        x.values(1);
        x.values(2);
        x.unlike(0, 1);
        x.shift(0, 0);
        x.lay(0, 0, 1);
        x.read(0, 0, 0, 3);
        x.torn();
        x.count(1);
        x.smooth(3);
        x.keep(1);
        x.back(0);
        x.sheet(1, 2, 7);
        x.cut(2);
    }
}
