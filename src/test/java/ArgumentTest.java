import java.util.ArrayList;
import java.util.List;

/**
 * Each method with each mixture of the smallest and the largest arguments that are allowed, those
 * next to them, and the smallest and the largest int. What is thrown must be what the document
 * names first, and then nothing may be changed. The MACHINES: 0 is PLAIN with 4 STATES, 1 is PLAIN
 * with 7, 2 is CROWDED by all ways but the way 2, 3 is as it was at first, with one STATE.
 */
public final class ArgumentTest {
    private static final int[] STATES = {4, 7, 6, 1};
    private static final int CROWDED = 2;

    /** The arguments: a MACHINE, a STATE of the first one, a number from .. to, a CODE, a truth. */
    private static final String[] FACE = {
        "begin machine 1..7", "arrow machine state 0..2 state truth", "lead machine state 0..2 state",
        "mark machine state truth truth", "sow machine 0..65535 1..7 0..6", "copy machine machine",
        "swap machine machine", "turn machine", "other machine", "grow machine", "drop machine state",
        "make machine truth machine", "combine machine machine 0..3 machine", "tell machine 0..4",
        "arrows machine state 0..2", "takes machine 0..12 code", "after machine 0..12 code 0..2",
        "size machine 0..3", "text machine 0..3", "kind machine", "many machine 0..12 0..1",
        "word machine 0..2147483647", "isAlike machine machine 0..1", "apart machine machine",
        "pairs machine machine", "together machine machine 0..3 -1..12", "house 0..2", "knock", "isSound", "digest"};

    private static int calls;
    private static int wrong;

    public static void main(String[] args) {
        for (String method : FACE) {
            String[] parts = method.split(" ");
            mix(parts[0], parts, new ArrayList<>());
        }
        System.out.println("ArgumentTest: " + calls + " calls, " + wrong + " wrong");
        if (wrong > 0) {
            System.exit(1);
        }
    }

    /** Adds each argument that could come next, and calls when none is missing. */
    private static void mix(String name, String[] parts, List<Object> arguments) {
        if (arguments.size() == parts.length - 1) {
            check(name, parts, arguments);
            return;
        }
        for (Object next : candidates(parts[arguments.size() + 1], arguments)) {
            List<Object> longer = new ArrayList<>(arguments);
            longer.add(next);
            mix(name, parts, longer);
        }
    }

    private static List<Object> candidates(String kind, List<Object> before) {
        if (kind.equals("truth")) {
            return List.of(true, false);
        }
        List<Object> all = new ArrayList<>();
        if (kind.equals("machine")) {
            all.addAll(List.of(1, 2));
        }
        long[] range = range(kind, before);
        for (long number : new long[] {range[0], range[1], range[0] - 1, range[1] + 1, Integer.MIN_VALUE,
            Integer.MAX_VALUE}) {
            if (number == (int) number && !all.contains((int) number)) {
                all.add((int) number);
            }
        }
        return all;
    }

    /** What is allowed; if it hangs on an argument that is not, that is taken for 0. */
    private static long[] range(String kind, List<Object> before) {
        switch (kind) {
            case "machine":
                return new long[] {0, 3};
            case "state":
                int machine = (int) before.get(0);
                return new long[] {0, STATES[machine >= 0 && machine <= 3 ? machine : 0] - 1};
            case "code":
                int length = (int) before.get(1);
                return new long[] {0, Math.round(Math.pow(3, length >= 0 && length <= 12 ? length : 0)) - 1};
            default:
                int dots = kind.indexOf("..");
                return new long[] {Long.parseLong(kind.substring(0, dots)), Long.parseLong(kind.substring(dots + 2))};
        }
    }

    private static String due(String name, String[] parts, List<Object> arguments) {
        boolean isNumberWrong = name.equals("many") && arguments.get(2).equals(1) && (int) arguments.get(1) > 5;
        for (int k = 0; k < arguments.size(); k++) {
            String kind = parts[k + 1];
            if (!kind.equals("truth")) {
                long[] range = range(kind, arguments);
                int number = (int) arguments.get(k);
                boolean isWrong = number < range[0] || number > range[1];
                if (isWrong && (kind.equals("machine") || kind.equals("state"))) {
                    return "throws.IndexOutOfBoundsException";
                }
                isNumberWrong |= isWrong;
            }
        }
        if (isNumberWrong) {
            return "throws.IllegalArgumentException";
        }
        return isCrowded(name, arguments) ? "throws.IllegalStateException" : "no exception";
    }

    private static boolean isCrowded(String name, List<Object> arguments) {
        boolean isFirst = !arguments.isEmpty() && arguments.get(0).equals(CROWDED);
        return switch (name) {
            case "after" -> isFirst && !arguments.get(3).equals(0);
            case "size", "text" -> isFirst && !arguments.get(1).equals(2);
            case "kind", "word" -> isFirst;
            case "many" -> isFirst && arguments.get(2).equals(0);
            case "isAlike", "apart", "pairs", "together" -> isFirst || arguments.get(1).equals(CROWDED);
            default -> false;
        };
    }

    private static void check(String name, String[] parts, List<Object> arguments) {
        Leastreader x = new Leastreader();
        x.sow(0, 5, 4, 0);
        x.sow(1, 9, 7, 0);
        x.sow(CROWDED, 102, 6, 2);
        StringBuilder words = new StringBuilder(name);
        arguments.forEach(argument -> words.append(' ').append(argument));
        long before = x.digest();
        String got = Script.call(x, words.toString());
        calls++;
        String due = due(name, parts, arguments);
        if (!due.equals(got.startsWith("throws.") ? got : "no exception")) {
            wrong++;
            System.out.println("ArgumentTest: " + words + " = " + got + ", due is " + due);
        } else if (got.startsWith("throws.") && x.digest() != before) {
            wrong++;
            System.out.println("ArgumentTest: " + words + " changed something");
        }
    }
}
