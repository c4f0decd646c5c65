import java.lang.reflect.Method;
import java.lang.reflect.Modifier;
import java.util.ArrayList;
import java.util.Arrays;
import java.util.Comparator;
import java.util.List;

/**
 * Every call with every combination of numbers at and beyond the limits, in objects from empty to
 * full, answered by DrillCount and by Model: rule 7, that no call ever throws by itself, and what
 * each promise answers for 'others'.
 */
public final class AnyIntTest {

    private static final int MIN = Integer.MIN_VALUE;
    private static final int MAX = Integer.MAX_VALUE;

    private static final int[] ONE = {
        MIN, MIN + 1, -65536, -1001, -1000, -999, -998, -65, -64, -63, -33, -32, -31, -6, -5, -4,
        -3, -2, -1, 0, 1, 2, 3, 4, 5, 6, 7, 8, 9, 10, 11, 12, 13, 14, 15, 16, 17, 18, 31, 32, 33, 34,
        38, 39, 40, 41, 62, 63, 64, 65, 66, 98, 99, 100, 101, 127, 128, 255, 256, 512, 998, 999,
        1000, 1001, 65535, 65536, MAX - 1, MAX,
    };
    private static final int[] TWO = {
        MIN, MIN + 1, -1000, -64, -32, -2, -1, 0, 1, 2, 3, 4, 5, 6, 8, 9, 10, 11, 12, 13, 17, 31,
        32, 39, 40, 41, 63, 64, 65, 99, 100, 256, 1000, 65536, MAX - 1, MAX,
    };
    private static final int[] THREE = {
        MIN, -1000, -999, -2, -1, 0, 1, 2, 3, 4, 5, 12, 32, 39, 40, 41, 64, 999, 1000, MAX,
    };
    private static final int[] FOUR = {MIN, -1, 0, 1, 2, 3, 4, 7, 8, 9, 32, 64, MAX};

    private static final Check CHECK = new Check();

    private final Script state;
    private DrillCount asked;
    private Model model;
    private int calls;

    private AnyIntTest(Script state) {
        this.state = state;
        makeAnew();
    }

    public static void main(String[] args) {
        for (Script state : States.all()) {
            CHECK.within(state.title);
            CHECK.yes("its calls leave room for more", state.size() < Script.MOST_CALLS - 100);
            for (Method method : face()) {
                new AnyIntTest(state).tryAll(method, new Object[method.getParameterCount()], 0);
            }
        }
        CHECK.within("");
        CHECK.end("AnyIntTest");
    }

    private static List<Method> face() {
        List<Method> all = new ArrayList<>();
        for (Method method : DrillCount.class.getDeclaredMethods()) {
            if (Modifier.isPublic(method.getModifiers())) {
                all.add(method);
            }
        }
        all.sort(Comparator.comparing(Method::getName));
        return all;
    }

    private void makeAnew() {
        asked = state.on(new DrillCount());
        model = state.on(new Model());
        calls = state.size();
    }

    /** Fills in the arguments from the i-th on, in all ways. */
    private void tryAll(Method method, Object[] args, int i) {
        if (i == args.length) {
            tryOne(new Script.Call(method.getName(), args.clone()));
            return;
        }
        if (method.getParameterTypes()[i] == boolean.class) {
            for (boolean on : new boolean[] {true, false}) {
                args[i] = on;
                tryAll(method, args, i + 1);
            }
            return;
        }
        for (int number : numbersFor(method)) {
            args[i] = number;
            tryAll(method, args, i + 1);
        }
    }

    private static int[] numbersFor(Method method) {
        long ints = Arrays.stream(method.getParameterTypes()).filter(t -> t == int.class).count();
        return ints == 1 ? ONE : ints == 2 ? TWO : ints == 3 ? THREE : FOUR;
    }

    private void tryOne(Script.Call call) {
        String got = call.on(asked);
        String due = call.on(model);
        calls++;
        CHECK.note(got.equals(due), call + " answered " + got + ", due is " + due);
        boolean changed = CHANGING.contains(call.name()) && !due.equals("-1") && !due.equals("false");
        if (changed || calls >= Script.MOST_CALLS) {
            makeAnew();
        }
    }

    static final List<String> CHANGING = List.of("axis", "category", "move", "document", "tag",
            "number", "unnumber", "remove", "select", "range", "drop", "missing", "open", "back");
}
