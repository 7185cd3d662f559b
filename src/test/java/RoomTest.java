import com.sun.management.ThreadMXBean;
import java.lang.management.ManagementFactory;

/** One room holds all objects of a run: an object makes its rows at first, and its calls make none. */
public final class RoomTest {
    private static final long MOST_BYTES_OF_AN_OBJECT = 40_000;
    private static final long MOST_BYTES_OF_ALL_CALLS = 4_000;
    /** With those that tell the ball, and count() behind all, an object has at most 512. */
    private static final int CALLS = 464;
    /** The machine itself may make something when a call is met for the first time. */
    private static final int WARM_RUNS = 3;

    private static final ThreadMXBean MEASURE = (ThreadMXBean) ManagementFactory.getThreadMXBean();

    private static long made = 0;
    private static int sum = 0;

    private interface Run {
        DancedPacts of(DancedPacts x);
    }

    private RoomTest() {
    }

    public static void main(String[] args) {
        Watchdog.start();
        if (!MEASURE.isThreadAllocatedMemorySupported()) {
            System.out.println("this machine can't measure what is made");
            return;
        }
        boolean fits = keepsTo("an object", MOST_BYTES_OF_AN_OBJECT, x -> new DancedPacts());
        fits &= keepsTo(CALLS + " calls of a full ball", MOST_BYTES_OF_ALL_CALLS, RoomTest::askAll);
        fits &= keepsTo(CALLS + " calls that tell balls", MOST_BYTES_OF_ALL_CALLS, RoomTest::tellAll);
        System.out.println(fits ? "all fits in the room" : "too much is made");
        if (!fits) {
            System.exit(1);
        }
    }

    private static boolean keepsTo(String what, long most, Run run) {
        for (int i = 0; i < WARM_RUNS; i++) {
            DancedPacts x = Boundary.told(Boundary.FULL);
            long before = MEASURE.getCurrentThreadAllocatedBytes();
            DancedPacts behind = run.of(x);
            made = MEASURE.getCurrentThreadAllocatedBytes() - before;
            sum += behind.count(1);
        }
        if (made > most) {
            System.out.println(what + " made " + made + " bytes, at most " + most + " are due");
        }
        return made <= most;
    }

    /** The dearest questions, and all acts, of eight DANCES of ten STEPS. */
    private static DancedPacts askAll(DancedPacts x) {
        for (int i = 0; i < CALLS; i += 16) {
            sum += x.mend(7, 1) + x.limp(7, 0) + x.costly(7) + x.evenings(2);
            sum += x.against(1) + x.game(0, 1, 3, 0) + x.century(i, 40, 1) + x.help(2);
            sum += x.bound(1, 2) + x.count(5) + x.act(0, 1, 1) + x.stumble(7, 0, i & 7);
            sum += x.years(1) + x.again(7) + x.undo() + x.see(7, 9, 0, 1, 1);
        }
        return x;
    }

    private static DancedPacts tellAll(DancedPacts x) {
        for (int i = 0; i < CALLS; i += 4) {
            sum += x.feed(0x76616c6c, 0x65792039, 0x3b6c696d, 0x69742028, 0x6e2b3129);
            sum += x.feed(0x3b202020, 0x20202020, 0x20202020, 0x20202020, 0x20202020);
            sum += x.ball(i % 3 == 0 ? 40 : 19);
            x.image();
        }
        return x;
    }
}
