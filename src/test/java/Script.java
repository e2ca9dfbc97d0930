import java.lang.reflect.InvocationTargetException;
import java.lang.reflect.Method;
import java.util.ArrayList;
import java.util.List;

/**
 * Plays a run of calls, a line each, "sow 0 5 4 0 = 12", on a new object: on the program, and on
 * Reference, which shows that the line itself is right. Lines that begin with # are skipped.
 * Where "any" is due, the answer is not looked at. Behind each call it looks at what was changed: nothing by a call that throws or that asks, and
 * house() of 1 alone by one that is REFUSED.
 */
public final class Script {
    private static final String ACTS = "begin|arrow|lead|mark|sow|copy|swap|turn|other|grow|drop|make|combine";

    private final List<String> wrong = new ArrayList<>();
    private int calls;

    void play(String name, String lines) {
        playOn(name + " (program)", new Leastreader(), lines);
        playOn(name + " (reference)", new Reference(), lines);
    }

    int calls() {
        return calls;
    }

    List<String> wrong() {
        return wrong;
    }

    private void playOn(String name, Object asked, String lines) {
        for (String line : lines.split("\n")) {
            if (line.isBlank() || line.startsWith("#")) {
                continue;
            }
            int equals = line.indexOf(" =");
            String due = line.substring(equals + 2).strip();
            List<String> before = state(asked);
            String got = call(asked, line.substring(0, equals));
            calls++;
            if (!due.equals("any") && !got.equals(due)) {
                wrong.add(name + ": " + line + ", but answered " + got);
            }
            checkChange(name + ": " + line, got, before, state(asked));
        }
    }

    private void checkChange(String what, String got, List<String> before, List<String> after) {
        boolean isAct = what.matches(".*: (" + ACTS + ") .*");
        boolean isThrown = got.startsWith("throws.");
        List<String> due = new ArrayList<>(before.subList(0, 3));
        if (!isThrown && (isAct || what.contains(": knock"))) {
            int counted = !isAct ? 2 : got.equals("-9") ? 1 : 0;
            due.set(counted, Integer.toString(Integer.parseInt(due.get(counted)) + 1));
        }
        if (!after.subList(0, 3).equals(due)) {
            wrong.add(what + " counted " + after.subList(0, 3));
        }
        boolean mayChange = isAct && !isThrown && !got.equals("-9");
        if (!mayChange && !after.subList(3, after.size()).equals(before.subList(3, before.size()))) {
            wrong.add(what + " changed a MACHINE");
        }
    }

    /** All that can be told, house() first. */
    private static List<String> state(Object asked) {
        List<String> told = new ArrayList<>();
        for (int what = 0; what < 3; what++) {
            told.add(call(asked, "house " + what));
        }
        for (int machine = 0; machine < 4; machine++) {
            for (int what = 0; what < 5; what++) {
                told.add(call(asked, "tell " + machine + " " + what));
            }
            int states = Integer.parseInt(call(asked, "tell " + machine + " 0"));
            for (int cell = 0; cell < states * 3; cell++) {
                told.add(call(asked, "arrows " + machine + " " + cell / 3 + " " + cell % 3));
            }
        }
        return told;
    }

    static String call(Object asked, String words) {
        String[] parts = words.strip().split(" ");
        Class<?>[] types = new Class<?>[parts.length - 1];
        Object[] arguments = new Object[types.length];
        for (int k = 0; k < types.length; k++) {
            boolean isTruth = parts[k + 1].matches("true|false");
            types[k] = isTruth ? boolean.class : int.class;
            arguments[k] = isTruth ? (Object) Boolean.valueOf(parts[k + 1]) : (Object) Integer.valueOf(parts[k + 1]);
        }
        return call(asked, parts[0], types, arguments);
    }

    static String call(Object asked, String name, Class<?>[] types, Object[] arguments) {
        try {
            Method method = asked.getClass().getMethod(name, types);
            return String.valueOf(method.invoke(asked, arguments));
        } catch (InvocationTargetException thrown) {
            return "throws." + thrown.getCause().getClass().getSimpleName();
        } catch (ReflectiveOperationException absent) {
            return "no such call";
        }
    }
}
