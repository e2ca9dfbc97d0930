import java.lang.reflect.InvocationTargetException;
import java.lang.reflect.Method;
import java.util.ArrayList;
import java.util.List;
import java.util.regex.Matcher;
import java.util.regex.Pattern;

/**
 * Plays a run of calls, a line each, "sow 0 5 4 0 = 12", each run on new objects. Lines that begin
 * with # are skipped; where "any" is due, the answer is not looked at; IOOBE, IAE and ISE stand for
 * the three exceptions. "9 times knock = any" is that call nine times, "tell {0-3} 0 = 1" the call
 * with each number from 0 to 3.
 *
 * <p>A run is played three times. First on the program alone. Then on the program and on Reference,
 * and behind each call digest() is asked: nothing may be changed by a call that throws or that
 * asks, house() of 1 alone by one that is REFUSED, and both must have come to the same. Reference
 * shows, too, that the lines themselves are right.
 */
public final class Script {
    /** What an object answers behind so many calls is free. */
    private static final int MOST_CALLS = 512;
    private static final int MOST_CALLS_OF_A_FULL_LOOK = 3 + 4 * (5 + 7 * 3);

    private static final Pattern TIMES = Pattern.compile("(\\d+) times (.*)");
    private static final Pattern FROM_TO = Pattern.compile("\\{(-?\\d+)-(\\d+)\\}");
    private static final String ACTS = "begin|arrow|lead|mark|sow|copy|swap|turn|other|grow|drop|make|combine";

    /** By how much digest() grows if house() of 1 or of 2 does: two numbers come behind the one, one behind the other. */
    private static final long ONE_REFUSED_MORE = 31 * 31;
    private static final long ONE_KNOCK_MORE = 31;

    private final List<String> wrong = new ArrayList<>();
    private int calls;

    void play(String name, String lines) {
        List<String> run = spread(lines);
        if (run.size() > MOST_CALLS) {
            wrong.add(name + " has more than " + MOST_CALLS + " calls");
            return;
        }
        playOn(name + " (program)", new Leastreader(), run);
        if (2 * run.size() + 1 + MOST_CALLS_OF_A_FULL_LOOK > MOST_CALLS) {
            playOn(name + " (reference)", new Reference(), run);
            return;
        }
        List<String> got = playAndLook(name + " (program, looked at)", new Leastreader(), run);
        List<String> due = playAndLook(name + " (reference, looked at)", new Reference(), run);
        for (int k = 0; k < got.size(); k++) {
            if (!got.get(k).equals(due.get(k))) {
                wrong.add(name + ": behind " + (k < run.size() ? run.get(k) : "all of it") + " the program is "
                        + got.get(k) + ", the reference " + due.get(k));
                return;
            }
        }
    }

    int calls() {
        return calls;
    }

    List<String> wrong() {
        return wrong;
    }

    private static List<String> spread(String lines) {
        List<String> run = new ArrayList<>();
        for (String line : lines.split("\n")) {
            if (line.isBlank() || line.startsWith("#")) {
                continue;
            }
            Matcher times = TIMES.matcher(line);
            if (times.matches()) {
                for (int k = 0; k < Integer.parseInt(times.group(1)); k++) {
                    spreadNumbers(times.group(2), run);
                }
            } else {
                spreadNumbers(line, run);
            }
        }
        return run;
    }

    private static void spreadNumbers(String line, List<String> run) {
        Matcher place = FROM_TO.matcher(line);
        if (!place.find()) {
            run.add(line);
            return;
        }
        for (int k = Integer.parseInt(place.group(1)); k <= Integer.parseInt(place.group(2)); k++) {
            spreadNumbers(line.substring(0, place.start()) + k + line.substring(place.end()), run);
        }
    }

    private void playOn(String name, Object asked, List<String> run) {
        for (String line : run) {
            playLine(name, asked, line);
        }
    }

    private String playLine(String name, Object asked, String line) {
        int equals = line.indexOf(" =");
        if (equals < 0) {
            wrong.add(name + ": no answer stands in " + line);
            return "";
        }
        String due = line.substring(equals + 2).strip().replace("IOOBE", "throws.IndexOutOfBoundsException")
                .replace("IAE", "throws.IllegalArgumentException").replace("ISE", "throws.IllegalStateException");
        String got = call(asked, line.substring(0, equals));
        calls++;
        if (!due.equals("any") && !got.equals(due)) {
            wrong.add(name + ": " + line + ", but answered " + got);
        }
        return got;
    }

    /** What is told behind each call, and at the end all that can be told. */
    private List<String> playAndLook(String name, Object asked, List<String> run) {
        List<String> looks = new ArrayList<>();
        long before = number(asked, "digest");
        for (String line : run) {
            String got = playLine(name, asked, line);
            long after = number(asked, "digest");
            checkChange(name + ": " + line, line.split(" ")[0], got, after - before);
            looks.add(got + ", digest " + after);
            before = after;
        }
        looks.add(lookAtAll(asked).toString());
        return looks;
    }

    /** What is no number counts as 0: it differs from what is due, but the other runs go on. */
    private static long number(Object asked, String words) {
        String got = call(asked, words);
        return got.matches("-?\\d+") ? Long.parseLong(got) : 0;
    }

    private void checkChange(String what, String method, String got, long change) {
        boolean isAct = method.matches(ACTS) && !got.startsWith("throws.");
        if (isAct && !got.equals("-9")) {
            return;
        }
        long due = isAct ? ONE_REFUSED_MORE : method.equals("knock") ? ONE_KNOCK_MORE : 0;
        if (change != due) {
            wrong.add(what + " changed digest() by " + change + " and not by " + due);
        }
    }

    private static List<String> lookAtAll(Object asked) {
        List<String> told = new ArrayList<>();
        for (int what = 0; what < 3; what++) {
            told.add(call(asked, "house " + what));
        }
        for (int machine = 0; machine < 4; machine++) {
            for (int what = 0; what < 5; what++) {
                told.add(call(asked, "tell " + machine + " " + what));
            }
            long cells = number(asked, "tell " + machine + " 0") * 3;
            for (int cell = 0; cell < cells; cell++) {
                told.add(call(asked, "arrows " + machine + " " + cell / 3 + " " + cell % 3));
            }
        }
        return told;
    }

    static String call(Object asked, String words) {
        String[] parts = words.strip().split(" ");
        Class<?>[] types = new Class<?>[parts.length - 1];
        Object[] arguments = new Object[types.length];
        for (int k = 0; k < types.length; k++) {
            boolean isTruth = parts[k + 1].matches("true|false");
            types[k] = isTruth ? boolean.class : int.class;
            arguments[k] = isTruth ? (Object) Boolean.valueOf(parts[k + 1]) : (Object) Integer.valueOf(parts[k + 1]);
        }
        return call(asked, parts[0], types, arguments);
    }

    static String call(Object asked, String name, Class<?>[] types, Object[] arguments) {
        try {
            Method method = asked.getClass().getMethod(name, types);
            return String.valueOf(method.invoke(asked, arguments));
        } catch (InvocationTargetException thrown) {
            return "throws." + thrown.getCause().getClass().getSimpleName();
        } catch (ReflectiveOperationException absent) {
            return "no such call";
        }
    }
}
