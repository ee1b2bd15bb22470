import java.lang.reflect.InvocationTargetException;
import java.lang.reflect.Method;
import java.lang.reflect.Modifier;
import java.util.Arrays;
import java.util.HashMap;
import java.util.Map;

/** An object that answers the calls of the document by their names: the class itself, or the model. */
final class Calls {
    private static final Map<String, Method> OF_CLASS = new HashMap<>();
    private static final Map<String, Method> OF_MODEL = new HashMap<>();

    static {
        for (Method m : TrampOffice.class.getDeclaredMethods()) {
            if (Modifier.isPublic(m.getModifiers())) OF_CLASS.put(m.getName(), m);
        }
        for (Method m : Model.class.getDeclaredMethods()) {
            Method same = OF_CLASS.get(m.getName());
            if (same != null && Arrays.equals(m.getParameterTypes(), same.getParameterTypes())) OF_MODEL.put(m.getName(), m);
        }
    }

    private final Object it;
    private final Map<String, Method> methods;

    private Calls(Object it, Map<String, Method> methods) {
        this.it = it;
        this.methods = methods;
    }

    static Calls ofClass() {
        return new Calls(new TrampOffice(), OF_CLASS);
    }

    static Calls ofModel() {
        return new Calls(new Model(), OF_MODEL);
    }

    /** What the object answers; what the machine throws in it ends the test. */
    long call(String name, Object... args) {
        try {
            return ((Number) methods.get(name).invoke(it, args)).longValue();
        } catch (InvocationTargetException e) {
            throw new IllegalStateException(name + Arrays.toString(args) + " threw " + e.getCause(), e.getCause());
        } catch (IllegalAccessException e) {
            throw new IllegalStateException(e);
        }
    }

    int size(int what) {
        return (int) call("count", what);
    }

    /** Feeds a text, eight bytes a call and the rest at last. */
    void feed(String text) {
        for (int i = 0; i < text.length(); i += 8) {
            int n = Math.min(8, text.length() - i);
            long bytes = 0;
            for (int k = 0; k < n; k++) {
                bytes |= (text.charAt(i + k) & 255L) << 8 * k;
            }
            call("feed", n, bytes);
        }
    }
}
