import java.lang.reflect.InvocationTargetException;
import java.lang.reflect.Method;
import java.util.Arrays;
import java.util.Comparator;
import java.util.Map;
import java.util.TreeMap;

/** Runs of 512 calls, on the program and on Reference: each call must answer the same on both. */
public final class ReferenceTest {
    private static final int RUNS = 160;
    private static final int CALLS = 512;

    private static long x = 1;
    private static final Map<String, Integer> seen = new TreeMap<>();

    public static void main(String[] args) throws ReflectiveOperationException {
        Method[] face = Reference.class.getDeclaredMethods();
        face = Arrays.stream(face).filter(m -> java.lang.reflect.Modifier.isPublic(m.getModifiers()))
                .sorted(Comparator.comparing(Method::getName)).toArray(Method[]::new);
        for (int run = 0; run < RUNS; run++) {
            run(run, face);
        }
        for (String needed : new String[] {"make -9", "combine -9", "other -9", "grow -9", "drop -9",
                "size throws.IllegalStateException", "pairs throws.IllegalStateException",
                "together throws.IllegalStateException", "kind 0", "kind 1", "kind 2", "kind 3"}) {
            if (!seen.containsKey(needed)) {
                fail("the runs never met " + needed);
            }
        }
        System.out.println("ReferenceTest: " + RUNS + " runs of " + CALLS + " calls, all alike");
    }

    private static void run(int run, Method[] face) throws ReflectiveOperationException {
        Leastreader program = new Leastreader();
        Reference reference = new Reference();
        StringBuilder story = new StringBuilder();
        for (int call = 0; call < CALLS; call++) {
            Method asked = next(3) == 0 ? act(run, face) : face[next(face.length)];
            Object[] arguments = arguments(asked);
            String got = answer(program, Leastreader.class, asked, arguments);
            String due = answer(reference, Reference.class, asked, arguments);
            story.append(asked.getName()).append(Arrays.toString(arguments)).append(" = ").append(got).append('\n');
            seen.merge(asked.getName() + " " + got, 1, Integer::sum);
            if (!got.equals(due)) {
                fail(story + "in run " + run + ", due is " + due);
            }
        }
    }

    /** Sown machines differ most, and small changes keep two of them near each other. */
    private static Method act(int run, Method[] face) {
        String[] names = run % 2 == 0 ? new String[] {"sow", "sow", "copy", "mark", "lead"}
                : new String[] {"sow", "combine", "make", "arrow", "turn", "other"};
        String name = names[next(names.length)];
        for (Method method : face) {
            if (method.getName().equals(name)) {
                return method;
            }
        }
        throw new AssertionError(name);
    }

    private static String answer(Object asked, Class<?> type, Method method, Object[] arguments)
            throws ReflectiveOperationException {
        try {
            Object got = type.getMethod(method.getName(), method.getParameterTypes()).invoke(asked, arguments);
            return got.toString();
        } catch (InvocationTargetException thrown) {
            return "throws." + thrown.getCause().getClass().getSimpleName();
        }
    }

    private static Object[] arguments(Method method) {
        Class<?>[] types = method.getParameterTypes();
        Object[] arguments = new Object[types.length];
        for (int k = 0; k < types.length; k++) {
            arguments[k] = types[k] == boolean.class ? (Object) (next(2) == 0) : (Object) number(method.getName(), k);
        }
        if (method.getName().matches("takes|after") && next(12) != 0) {
            int length = next(7);
            arguments[1] = length;
            arguments[2] = next((int) Math.pow(3, length));
        }
        return arguments;
    }

    /** Mostly what the document allows, at times what it does not. */
    private static int number(String name, int place) {
        if (next(60) == 0) {
            return new int[] {-2, -1, 8, 13, 14, 70000, Integer.MAX_VALUE, Integer.MIN_VALUE}[next(8)];
        }
        boolean isMachine = place == 0 && !name.equals("house") || place == 1
                && name.matches("copy|swap|isAlike|apart|pairs|combine|together") || place == 2 && name.equals("make")
                || place == 3 && name.equals("combine");
        if (isMachine) {
            return next(60) == 0 ? 4 : next(4);
        }
        return switch (name + place) {
            case "sow1" -> next(65536);
            case "sow2", "begin1" -> 1 + next(7);
            case "sow3" -> next(7);
            case "many1" -> next(13);
            case "together3" -> next(14) - 1;
            case "word1" -> next(4) == 0 ? next(800000) : next(40);
            case "drop1", "mark1", "arrow1", "arrow3", "lead1", "lead3", "arrows1" -> next(6);
            case "arrow2", "lead2", "arrows2", "after3", "house0" -> next(3);
            case "size1", "text1", "combine2", "together2" -> next(4);
            case "tell1" -> next(5);
            default -> next(2);
        };
    }

    private static int next(int bound) {
        x = x * 6364136223846793005L + 1442695040888963407L;
        return (int) ((x >>> 33) % bound);
    }

    private static void fail(String why) {
        System.out.println("ReferenceTest: " + why);
        System.exit(1);
    }
}
