import java.lang.reflect.InvocationTargetException;
import java.lang.reflect.Method;
import java.lang.reflect.Modifier;
import java.util.ArrayList;
import java.util.Comparator;
import java.util.List;
import java.util.Random;

/**
 * "A call of the face throws exactly what and where the document says, and nothing else ever reaches its caller", and
 * "No call may ever throw by itself (only by a throw statement)": every method, with numbers of every size, from fixed
 * seeds, in every state that such calls lead to.
 */
public final class ThrowTest {
    private static final Check c = new Check();
    private static final int[] EDGES = {Integer.MIN_VALUE, Integer.MAX_VALUE, -2, -1, 10, 12, 300, 1439, 1440, 1999, 2000,
        65535, 65536, 1 << 30};

    public static void main(String[] args) throws IllegalAccessException {
        List<Method> face = new ArrayList<>();
        for (Method each : RunwayLoom.class.getDeclaredMethods()) {
            if (Modifier.isPublic(each.getModifiers())) {
                face.add(each);
            }
        }
        face.sort(Comparator.comparing(Method::getName));
        c.same("methods of the face", face.size(), 36);
        for (int seed = 1; seed <= 60; seed++) {
            Random random = new Random(seed);
            RunwayLoom x = seed % 3 == 0 ? new RunwayLoom() : Check.rich();
            // What comes behind the 512th call is free, and the first ones were made by rich().
            for (int call = 0; call < 480; call++) {
                Method method = face.get(random.nextInt(face.size()));
                call(method, x, arguments(method, random));
            }
        }
        c.end("ThrowTest");
    }

    private static Object[] arguments(Method method, Random random) {
        Class<?>[] types = method.getParameterTypes();
        Object[] arguments = new Object[types.length];
        for (int i = 0; i < types.length; i++) {
            if (types[i] == boolean.class) {
                arguments[i] = random.nextBoolean();
            } else if (types[i] == char.class) {
                arguments[i] = random.nextInt(3) == 0 ? (char) random.nextInt(65536) : "hxfDPTLE".charAt(random.nextInt(8));
            } else {
                arguments[i] = number(random);
            }
        }
        return arguments;
    }

    private static int number(Random random) {
        switch (random.nextInt(12)) {
            case 0: return EDGES[random.nextInt(EDGES.length)];
            case 1: return random.nextInt();
            case 2: return random.nextInt(2000);
            case 3: return 20 + random.nextInt(70);
            default: return random.nextInt(6);
        }
    }

    private static void call(Method method, RunwayLoom x, Object[] arguments) throws IllegalAccessException {
        boolean isAsSaid = true;
        String what = "";
        try {
            method.invoke(x, arguments);
        } catch (InvocationTargetException thrown) {
            Throwable cause = thrown.getCause();
            isAsSaid = List.of(method.getExceptionTypes()).contains(cause.getClass()) && isByStatement(method, cause);
            what = " threw " + cause;
        }
        c.same(method.getName() + java.util.Arrays.toString(arguments) + what + ", as is said", isAsSaid, true);
    }

    /** Whether what was thrown comes from where the class throws by a statement: its checks, and minuteOf's events. */
    private static boolean isByStatement(Method method, Throwable thrown) {
        StackTraceElement[] stack = thrown.getStackTrace();
        String where = stack.length == 0 ? "" : stack[0].getMethodName();
        return where.startsWith("require") || where.equals("minuteOf") && method.getName().equals("minuteOf");
    }
}
