import com.sun.management.ThreadMXBean;
import java.lang.management.ManagementFactory;

/**
 * All calls of one run live in one room of some 600,000 objects and 7.3 million elements: 512
 * calls, nearly all of them the dearest ones, make next to nothing.
 */
public final class RoomTest {
    private static final Due DUE = new Due("RoomTest");
    private static final long MOST_BYTES_OF_A_RUN = 200_000;
    /** Four calls each, behind the 44 that fullHouse() makes. */
    private static final int ROUNDS = (512 - 44) / 4;

    public static void main(String[] args) {
        spent(fullHouse());
        long bytes = spent(fullHouse());
        boolean little = bytes < MOST_BYTES_OF_A_RUN;
        DUE.is("512 calls made little of " + bytes + " bytes", little, true);
        DUE.end();
    }

    private static long spent(GhostCandles house) {
        ThreadMXBean threads = (ThreadMXBean) ManagementFactory.getThreadMXBean();
        long before = threads.getCurrentThreadAllocatedBytes();
        for (int round = 0; round < ROUNDS; round++) {
            house.advise(8);
            house.foresee(40, 0);
            house.reaches(0, 0, 99);
            house.pass(1);
        }
        return threads.getCurrentThreadAllocatedBytes() - before;
    }

    private static GhostCandles fullHouse() {
        GhostCandles house = new GhostCandles();
        for (int number = 0; number < 10; number++) {
            house.candle(number % 9, 3 + number / 9, 60);
            house.mirror(number % 9, 5 + number / 9, number % 2 == 0);
        }
        for (int number = 0; number < 6; number++) {
            house.tally(number, 0);
            house.come(8 - number, 1, number % 3 + 1);
            house.send(number, number, 0);
            house.wall(number, 1, 1);
        }
        return house;
    }
}
