import com.sun.management.ThreadMXBean;
import java.lang.management.ManagementFactory;

/** All calls of one run live in one room: what an object and its 512 calls make, in bytes, has place there. */
public final class RoomTest {
    /** 7.3 million fields and elements, of four bytes each. */
    private static final long MOST_BYTES = 29_000_000;
    private static final Checks C = new Checks("RoomTest");

    private interface Run {
        void of(Swervewright x, int call);
    }

    private RoomTest() {
    }

    public static void main(String[] args) {
        dearest("cheapest", (x, call) -> x.cheapest(3, 3, 0, call % 16, call / 16 % 16, call % 8, true));
        dearest("cheapestAnew", (x, call) -> x.cheapestAnew(3, 3, 0, call % 16, call / 16 % 16, call % 8, true));
        dearest("plan", RoomTest::plan);
        dearest("word", (x, call) -> x.word(3, 3, 0, call % 16, call / 16 % 16, call % 8));
        dearest("shorten", (x, call) -> x.shorten(call % 3));
        dearest("speed", (x, call) -> x.speed(call % 3, call % 4));
        dearest("peak", (x, call) -> x.peak(call % 3));
        dearest("drive", RoomTest::drive);
        dearest("vehicle", (x, call) -> x.vehicle(call % 3, 1));
        dearest("corners", RoomTest::corners);
        C.end();
    }

    private static void plan(Swervewright x, int call) {
        if (call < 8) {
            x.plan(2, 2, 0, 12, 2 + call, call, true);
        } else {
            x.planOf(call % 11, call % 5);
        }
    }

    private static void drive(Swervewright x, int call) {
        if (call % 60 == 0) {
            x.begin(8, 11, 0);
        }
        x.drive(Swervewright.LEFT);
    }

    private static void corners(Swervewright x, int call) {
        if (call % 7 == 6) {
            x.forget();
        } else {
            x.corner(call % 17, call % 5);
        }
    }

    private static void dearest(String what, Run run) {
        ThreadMXBean threads = (ThreadMXBean) ManagementFactory.getThreadMXBean();
        long id = Thread.currentThread().getId();
        call(run);
        long before = threads.getThreadAllocatedBytes(id);
        call(run);
        long bytes = threads.getThreadAllocatedBytes(id) - before;
        C.dueTrue(what + " makes " + bytes + " bytes, which are few enough,", bytes < MOST_BYTES);
    }

    private static void call(Run run) {
        Swervewright x = new Swervewright();
        Calls.polygon(x, 14, 14, 16, 14, 16, 16, 14, 16);
        for (int plan = 0; plan < 3; plan++) {
            Calls.drive(x, 8, 11, 0, 0, 3, 1, 4, 2, 5);
        }
        for (int call = 0; call < 470; call++) {
            run.of(x, call);
        }
    }
}
