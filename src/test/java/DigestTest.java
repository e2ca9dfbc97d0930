import java.math.BigInteger;

/** digest() against a sum without end, of which the last 64 bits are taken. */
public final class DigestTest {
    private static final BigInteger TURN = BigInteger.ONE.shiftLeft(64);

    private static BigInteger sum;

    public static void main(String[] args) {
        boolean isRight = holds(new Leastreader(), "new");
        Leastreader x = new Leastreader();
        x.begin(3, 7);
        for (int cell = 0; cell < 7 * 3 * 7; cell++) {
            x.arrow(3, cell / 21, cell / 7 % 3, cell % 7, true);
        }
        isRight &= holds(x, "all ARROWS");
        x.knock();
        x.drop(0, 0);
        isRight &= holds(x, "knocked, REFUSED");
        x.sow(0, 102, 6, 2);
        isRight &= holds(x, "CROWDED");
        for (int seed = 0; seed < 60; seed++) {
            Leastreader sown = new Leastreader();
            for (int machine = 0; machine < 4; machine++) {
                sown.sow(machine, 4 * seed + machine, 1 + (seed + machine) % 7, (seed + 2 * machine) % 7);
            }
            isRight &= holds(sown, "sown with " + seed);
        }
        System.out.println("DigestTest: " + (isRight ? "no wrong" : "wrong"));
        if (!isRight) {
            System.exit(1);
        }
    }

    private static boolean holds(Leastreader x, String name) {
        sum = BigInteger.valueOf(8025);
        for (int machine = 0; machine < 4; machine++) {
            for (int what = 0; what <= 4; what++) {
                add(x.tell(machine, what));
            }
            int cells = x.tell(machine, 0) * 3;
            for (int cell = 0; cell < cells; cell++) {
                add(x.arrows(machine, cell / 3, cell % 3));
            }
        }
        for (int what = 0; what <= 2; what++) {
            add(x.house(what));
        }
        add(x.isSound() ? 1 : 0);
        boolean hasWrapped = sum.compareTo(TURN) >= 0;
        BigInteger due = sum.mod(TURN);
        due = due.testBit(63) ? due.subtract(TURN) : due;
        if (!hasWrapped || !due.equals(BigInteger.valueOf(x.digest()))) {
            System.out.println("DigestTest: " + name + ": " + x.digest() + ", due is " + due);
            return false;
        }
        return true;
    }

    private static void add(long value) {
        sum = sum.multiply(BigInteger.valueOf(31)).add(BigInteger.valueOf(value));
    }
}
