import java.lang.reflect.Method;
import java.util.HashMap;
import java.util.Map;

/** Calls of the face by their names, for tests that read calls from a file. */
final class Calls {
    private static final Map<String, Method> FACE = new HashMap<>();

    static {
        for (Method method : PloughDepot.class.getDeclaredMethods()) {
            if (java.lang.reflect.Modifier.isPublic(method.getModifiers())) {
                FACE.put(method.getName(), method);
            }
        }
    }

    private Calls() {
    }

    static int howMany() {
        return FACE.size();
    }

    /** What the call answers; an argument that is a boolean is written true or false, or 1 or 0. */
    static int answer(PloughDepot depot, String name, String[] args) throws ReflectiveOperationException {
        Method method = FACE.get(name);
        if (method == null || method.getParameterCount() != args.length) {
            throw new IllegalArgumentException("there is no such call: " + name + " with " + args.length + " arguments");
        }
        Object[] values = new Object[args.length];
        for (int i = 0; i < args.length; i++) {
            boolean isBoolean = method.getParameterTypes()[i] == boolean.class;
            values[i] = isBoolean ? (Object) (args[i].equals("true") || args[i].equals("1")) : (Object) Integer.valueOf(args[i]);
        }
        return (Integer) method.invoke(depot, values);
    }
}
