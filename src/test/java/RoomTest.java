import java.lang.management.ManagementFactory;

/** All calls of a run live in one room: an object and its 512 calls must make little. */
public final class RoomTest {
    private static final Check check = new Check();
    private static final com.sun.management.ThreadMXBean THREADS =
        (com.sun.management.ThreadMXBean) ManagementFactory.getThreadMXBean();
    private static final int CALLS = 512;
    private static final long MOST_BYTES = 64 * 1024;
    private static final String WIDE = "....../....../....../....../....../......";

    public static void main(String[] args) {
        // The first round loads classes, whose bytes are not the program's.
        for (int round = 0; round < 2; round++) {
            for (int which = 0; which < 8; which++) {
                long made = bytesOf(which);
                if (round == 1) {
                    check.holds("bytes made by run " + which + ": " + made, made <= MOST_BYTES);
                }
            }
        }
        check.end();
    }

    private static long bytesOf(int which) {
        long me = Thread.currentThread().getId();
        long before = THREADS.getThreadAllocatedBytes(me);
        WithEyesBound x = Check.withRing(WIDE);
        for (int kind = 0; kind < 6; kind++) {
            x.player(kind, 7 * kind, kind, kind % 5, 1);
        }
        for (int i = 0; i < CALLS; i++) {
            call(x, which, i);
        }
        return THREADS.getThreadAllocatedBytes(me) - before;
    }

    private static void call(WithEyesBound x, int which, int i) {
        switch (which) {
            case 0:
                x.step(i % 6, 0);
                x.lost();
                break;
            case 1:
                x.expected(i % 4, 2, 8, 7, 0);
                break;
            case 2:
                x.next(2, 8, 7);
                break;
            case 3:
                x.game(8, 1, 3, i, 200, 0);
                break;
            case 4:
                x.lasts(8, 1, 3, 200, 20);
                break;
            case 5:
                x.stand(i % 6, 8, 1, 3, 50, 9);
                break;
            case 6:
                x.image();
                x.named(0, 1, 1, 1, 0);
                x.restore();
                break;
            default:
                x.digest();
        }
    }
}
