import java.lang.reflect.InvocationTargetException;
import java.lang.reflect.Method;
import java.util.ArrayList;
import java.util.Arrays;
import java.util.HashMap;
import java.util.List;
import java.util.Map;

/** A run of calls that can be played on a DrillCount and on a Model alike. */
final class Script {

    /** An object is used for at most so many calls. */
    static final int MOST_CALLS = 512;

    private static final Map<String, Method> FOUND = new HashMap<>();

    /** One call: a method's name and what it is given. */
    record Call(String name, Object... args) {
        String on(Object object) {
            try {
                return String.valueOf(find(object.getClass(), name).invoke(object, args));
            } catch (InvocationTargetException e) {
                return "throws." + e.getCause().getClass().getSimpleName();
            } catch (IllegalAccessException e) {
                throw new IllegalStateException(name, e);
            }
        }

        @Override
        public String toString() {
            String all = Arrays.toString(args);
            return name + "(" + all.substring(1, all.length() - 1) + ")";
        }
    }

    final String title;
    private final List<Call> calls = new ArrayList<>();

    Script(String title) {
        this.title = title;
    }

    Script call(String name, Object... args) {
        calls.add(new Call(name, args));
        return this;
    }

    int size() {
        return calls.size();
    }

    /** Plays all calls on an object, and gives it back. */
    <T> T on(T object) {
        for (Call call : calls) {
            call.on(object);
        }
        return object;
    }

    static Method find(Class<?> in, String name) {
        return FOUND.computeIfAbsent(in.getName() + " " + name, k -> search(in, name));
    }

    private static Method search(Class<?> in, String name) {
        for (Method method : in.getMethods()) {
            if (method.getName().equals(name)) {
                return method;
            }
        }
        throw new IllegalStateException("no method " + name);
    }
}
