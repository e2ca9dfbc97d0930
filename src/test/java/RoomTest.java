import com.sun.management.ThreadMXBean;
import java.lang.management.ManagementFactory;
import java.util.Arrays;

/** The dearest calls, 512 of them, take little of the room that a run has. */
public final class RoomTest {
    private static final long MOST_BYTES = 4_000_000;

    public static void main(String[] args) {
        ThreadMXBean threads = (ThreadMXBean) ManagementFactory.getThreadMXBean();
        String[] calls = {"digest", "isSound", "text", "word", "apart", "pairs", "combine", "many", "sow", "throws"};
        play(calls[0]);
        for (String call : calls) {
            long before = threads.getCurrentThreadAllocatedBytes();
            play(call);
            long taken = threads.getCurrentThreadAllocatedBytes() - before;
            if (taken > MOST_BYTES) {
                System.out.println("RoomTest: " + call + " takes " + taken + " bytes of at most " + MOST_BYTES);
                System.exit(1);
            }
        }
        System.out.println("RoomTest: no wrong of " + Arrays.toString(calls));
    }

    /** Sown so that there are 32 sets, and two machines that are apart by 16 SIGNS. */
    private static void play(String call) {
        Leastreader x = new Leastreader();
        x.sow(0, 50, 6, 2);
        x.sow(1, 66, 7, 3);
        x.copy(1, 2);
        x.arrow(2, 3, 2, 4, true);
        for (int k = 4; k < 512; k++) {
            once(x, call, k);
        }
    }

    private static void once(Leastreader x, String call, int k) {
        switch (call) {
            case "digest" -> x.digest();
            case "isSound" -> x.isSound();
            case "text" -> x.text(0, 3);
            case "word" -> x.word(0, 100000 + k);
            case "apart" -> x.apart(1, 2);
            case "pairs" -> x.pairs(0, 1);
            case "combine" -> x.combine(0, 0, 3, 3);
            case "many" -> x.many(0, 5, 1);
            case "sow" -> x.sow(3, k, 7, 1);
            default -> {
                try {
                    x.begin(4, 1);
                } catch (IndexOutOfBoundsException due) {
                    return;
                }
            }
        }
    }
}
