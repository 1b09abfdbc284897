import java.lang.reflect.InvocationTargetException;
import java.lang.reflect.Method;
import java.util.ArrayList;
import java.util.List;

/** An object and a Model that are asked the same by the name of a call; every answer is compared. */
final class Both {
    private final EightWires x = new EightWires();
    private final Model m = new Model();

    /** Calls one behind another, such as "see 3 255"; one that begins with "tape" puts the rest of its line there. */
    Both(List<String> calls) {
        for (String call : calls) {
            if (call.startsWith("tape ")) {
                tape(call.substring(5));
            } else {
                String[] words = call.split(" ");
                Object[] arguments = new Object[words.length - 1];
                for (int i = 1; i < words.length; i++) {
                    arguments[i - 1] = Integer.valueOf(words[i]);
                }
                ask(method(words[0]), arguments);
            }
        }
    }

    private void tape(String text) {
        for (int i = 0; i < text.length(); i += 8) {
            long v = 0;
            for (int j = i; j < i + 8; j++) {
                v = v << 8 | (j < text.length() ? text.charAt(j) : ' ');
            }
            ask(method("feed"), v);
        }
    }

    static List<Method> methods() {
        List<Method> all = new ArrayList<>();
        for (Method method : EightWires.class.getDeclaredMethods()) {
            if (java.lang.reflect.Modifier.isPublic(method.getModifiers())) {
                all.add(method);
            }
        }
        return all;
    }

    static Method method(String name) {
        for (Method method : methods()) {
            if (method.getName().equals(name)) {
                return method;
            }
        }
        throw new IllegalArgumentException(name);
    }

    int ask(Method method, Object... arguments) {
        try {
            Method same = Model.class.getDeclaredMethod(method.getName(), method.getParameterTypes());
            int due = (Integer) same.invoke(m, arguments);
            Check.due(method.getName() + " " + List.of(arguments), (Integer) method.invoke(x, arguments), due);
            return due;
        } catch (InvocationTargetException e) {
            // A call that throws answers nothing that could be due.
            System.out.println(method.getName() + " " + List.of(arguments) + " threw " + e.getCause());
            Check.due(method.getName() + " threw", 1, 0);
            return 0;
        } catch (ReflectiveOperationException e) {
            throw new IllegalStateException(e);
        }
    }
}
