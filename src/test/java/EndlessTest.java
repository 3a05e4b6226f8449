import java.lang.reflect.InvocationTargetException;
import java.lang.reflect.Method;
import java.util.ArrayList;
import java.util.Comparator;
import java.util.List;
import java.util.Random;

/** Any calls with any arguments, also far beyond 512, throw nothing but what the document names. */
public final class EndlessTest {
    private static final int[] EDGES = {Integer.MIN_VALUE, Integer.MAX_VALUE, -3, -2, -1, 0, 1, 2, 3, 4, 5, 6, 7, 8, 9,
        11, 12, 23, 24, 30, 31, '#', '.', '+', '0', '2', 'h', 'd', 's', 'b', 'f'};

    private EndlessTest() {
    }

    public static void main(String[] args) throws IllegalAccessException {
        List<Method> calls = new ArrayList<>();
        for (Method method : DelveKeep.class.getMethods()) {
            if (method.getDeclaringClass() == DelveKeep.class) {
                calls.add(method);
            }
        }
        calls.sort(Comparator.comparing(Method::getName));
        for (int seed = 0; seed < 40; seed++) {
            run(calls, new Random(seed));
        }
        Check.end();
    }

    private static void run(List<Method> calls, Random random) throws IllegalAccessException {
        DelveKeep keep = random.nextBoolean() ? Keeps.open() : new DelveKeep();
        String wrong = "";
        for (int i = 0; i < 4000; i++) {
            Method call = calls.get(random.nextInt(calls.size()));
            boolean isBegun = keep.state() == 'o';
            if (isBegun && call.getName().equals("leave") && random.nextInt(8) > 0) {
                continue;
            }
            wrong += ask(keep, call, random);
        }
        Check.is("what was thrown otherwise", wrong, "");
    }

    private static String ask(DelveKeep keep, Method call, Random random) throws IllegalAccessException {
        Class<?>[] types = call.getParameterTypes();
        Object[] arguments = new Object[types.length];
        for (int i = 0; i < types.length; i++) {
            int number = random.nextInt(4) > 0 ? random.nextInt(12) : EDGES[random.nextInt(EDGES.length)];
            arguments[i] = types[i] == boolean.class ? (Object) (number % 2 == 0)
                    : types[i] == char.class ? (Object) (char) EDGES[random.nextInt(EDGES.length)] : (Object) number;
        }
        try {
            call.invoke(keep, arguments);
            return "";
        } catch (InvocationTargetException e) {
            for (Class<?> type : call.getExceptionTypes()) {
                if (type == e.getCause().getClass()) {
                    return "";
                }
            }
            return call.getName() + " threw " + e.getCause() + "\n";
        }
    }
}
