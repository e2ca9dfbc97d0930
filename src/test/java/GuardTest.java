import java.lang.reflect.Constructor;
import java.lang.reflect.InvocationTargetException;
import java.lang.reflect.Method;
import java.util.Arrays;

/**
 * The rows inside the program look at a length and at each place before it is used (LANGUAGE.md,
 * rule 7): no call of the face hands them a wrong one, so they are asked straight here.
 */
public final class GuardTest {
    private static final int[] LENGTHS = {0, 1, 7, 32, -1, Integer.MIN_VALUE};

    /** Three times the last two is a number below 0 and one above, by wrap-around. */
    private static final int[] ROOMS = {0, 1, 7, 32, -1, 33, Integer.MIN_VALUE, Integer.MAX_VALUE, 1 << 30, -(1 << 30)};
    private static final int MOST_ROOM = 32;

    private static final int[] PLACES = {0, 1, 6, 7, 31, 32, 33, -1, -2, Integer.MAX_VALUE, Integer.MIN_VALUE};
    private static final int VALUE = 5;

    private static int wrong;

    public static void main(String[] args) throws ReflectiveOperationException {
        for (int length : LENGTHS) {
            Object row = make("Row", length);
            for (int place : PLACES) {
                checkPlace(row, length, place);
            }
        }
        for (int room : ROOMS) {
            Object machine = make("Machine", room);
            for (int from : PLACES) {
                checkCells(machine, room < 0 || room > MOST_ROOM ? 0 : room * 3, from);
            }
        }
        System.out.println("GuardTest: " + wrong + " wrong");
        if (wrong > 0) {
            System.exit(1);
        }
    }

    private static Object make(String name, int length) throws ReflectiveOperationException {
        Constructor<?> constructor = Class.forName("Leastreader$" + name).getDeclaredConstructor(int.class);
        constructor.setAccessible(true);
        try {
            return constructor.newInstance(length);
        } catch (InvocationTargetException thrown) {
            fail("new " + name + "(" + length + ") throws " + thrown.getCause());
            return null;
        }
    }

    private static void checkPlace(Object row, int length, int place) throws ReflectiveOperationException {
        if (row != null) {
            call(row, row.getClass(), "put", place, VALUE);
            checkRead(place >= 0 && place < length, call(row, row.getClass(), "at", place),
                    "a Row of " + length + " at " + place);
        }
    }

    private static void checkCells(Object machine, int length, int from) throws ReflectiveOperationException {
        for (int sign = -1; machine != null && sign <= 3; sign++) {
            Class<?> table = machine.getClass().getSuperclass();
            int place = from * 3 + sign;
            call(machine, table, "put", from, sign, VALUE);
            checkRead(place >= 0 && place < length, call(machine, table, "at", from, sign),
                    "a Machine of " + length + " cells at " + from + ", " + sign);
        }
    }

    private static void checkRead(boolean isThere, Object got, String what) {
        Object due = isThere ? VALUE : 0;
        if (!due.equals(got)) {
            fail(what + " reads " + got + ", due is " + due);
        }
    }

    /** What it answers, or the exception that it throws. */
    private static Object call(Object asked, Class<?> type, String name, Object... arguments)
            throws ReflectiveOperationException {
        Class<?>[] types = new Class<?>[arguments.length];
        Arrays.fill(types, int.class);
        Method method = type.getDeclaredMethod(name, types);
        method.setAccessible(true);
        try {
            return method.invoke(asked, arguments);
        } catch (InvocationTargetException thrown) {
            return thrown.getCause();
        }
    }

    private static void fail(String why) {
        wrong++;
        System.out.println("GuardTest: " + why);
    }
}
