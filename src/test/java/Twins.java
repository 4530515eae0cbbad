import java.util.ArrayList;
import java.util.List;

/**
 * Two objects are brought to the same state, one of them refuses a call, and then both answer all that can be asked.
 * No object is used for more than 512 calls.
 */
final class Twins {
    /** Brings a new object to a state. */
    private interface Past {
        void tell(Swervewright x);
    }

    private interface Refused {
        void call(Swervewright x);
    }

    private static final int MIN = Integer.MIN_VALUE;
    private static final int MAX = Integer.MAX_VALUE;

    private final Checks c;

    Twins(Checks c) {
        this.c = c;
    }

    void all() {
        refusedAlways("a new object", x -> { });
        refusedAlways("an object with something of all", Twins::something);
        refusedAlways("a full object", Twins::full);
        onANewObject();
        withSomething();
        whenFull();
    }

    private static void something(Swervewright x) {
        Calls.polygon(x, 5, 5, 8, 5, 8, 7, 5, 7);
        Calls.polygon(x, 6, 6, 9, 6, 9, 8, 6, 8);
        x.takeAway(0);
        x.corner(12, 2);
        x.corner(15, 2);
        x.vehicle(2, 1);
        x.cusp(33);
        x.margin(2);
        x.speeds(50, 9, 1, 2);
        x.word(4, 8, 0, 8, 12, 2);
        x.plan(3, 12, 0, 9, 12, 0, false);
        Calls.drive(x, 3, 12, 0, 0, 1, 2, 3, 5);
        x.plan(0, 0, 0, 0, 0, 0, true);
        x.begin(4, 10, 1);
        x.drive(0);
        x.drive(1);
    }

    private static void full(Swervewright x) {
        for (int number = 0; number < 8; number++) {
            Calls.polygon(x, number, 0, number + 1, 0, number + 1, 1);
        }
        for (int corner = 0; corner < 6; corner++) {
            x.corner(corner * corner % 5, corner);
        }
        x.word(4, 8, 0, 4, 8, 1);
        for (int plan = 0; plan < 12; plan++) {
            x.plan(3, 8, 0, 3 + plan % 3, 8, 0, false);
        }
        x.begin(8, 8, 0);
        for (int move = 0; move < 60; move++) {
            x.drive(move % 2 == 0 ? 1 : 4);
        }
    }

    private void refusedAlways(String state, Past past) {
        Class<?> index = IndexOutOfBoundsException.class;
        Class<?> argument = IllegalArgumentException.class;
        same(state + ", corner", past, argument, x -> x.corner(17, 3));
        same(state + ", corner", past, argument, x -> x.corner(3, -1));
        same(state + ", takeAway", past, index, x -> x.takeAway(8));
        same(state + ", takeAway", past, index, x -> x.takeAway(-1));
        same(state + ", vehicle", past, argument, x -> x.vehicle(3, 0));
        same(state + ", vehicle", past, argument, x -> x.vehicle(0, -1));
        same(state + ", cusp", past, argument, x -> x.cusp(101));
        same(state + ", margin", past, argument, x -> x.margin(6));
        same(state + ", clearance", past, index, x -> x.clearance(16, 0));
        same(state + ", isFree", past, index, x -> x.isFree(0, 0, 8));
        same(state + ", word", past, index, x -> x.word(0, 0, 0, 5, 0, 8));
        same(state + ", word", past, index, x -> x.word(16, 0, 0, 5, 0, 0));
        same(state + ", found", past, argument, x -> x.found(4));
        same(state + ", cheapest", past, index, x -> x.cheapest(0, 0, 0, 1, 16, 0, true));
        same(state + ", cheapestAnew", past, index, x -> x.cheapestAnew(0, 0, -1, 1, 1, 0, true));
        same(state + ", plan", past, index, x -> x.plan(8, 12, 0, 10, 12, 8, true));
        same(state + ", begin", past, index, x -> x.begin(8, 12, 8));
        same(state + ", begin", past, index, x -> x.begin(16, 12, 0));
        same(state + ", drive", past, index, x -> x.drive(6));
        same(state + ", drive", past, index, x -> x.drive(MIN));
        same(state + ", shorten", past, index, x -> x.shorten(12));
        same(state + ", planOf", past, index, x -> x.planOf(-1, 0));
        same(state + ", moveOf", past, index, x -> x.moveOf(0, MAX));
        same(state + ", poseOf", past, index, x -> x.poseOf(0, MAX));
        same(state + ", segment", past, index, x -> x.segment(0, MAX));
        same(state + ", speeds", past, argument, x -> x.speeds(1, 1, 1, 1001));
        same(state + ", speeds", past, argument, x -> x.speeds(0, 1, 1, 1));
        same(state + ", speed", past, index, x -> x.speed(0, MAX));
        same(state + ", peak", past, index, x -> x.peak(12));
    }

    private void onANewObject() {
        Class<?> state = IllegalStateException.class;
        Past past = x -> { };
        same("no corners", past, state, x -> x.polygon());
        same("no drive to go on", past, state, x -> x.drive(0));
        same("no drive to keep", past, state, x -> x.keep());
        same("a pose that is not free", past, state, x -> x.begin(15, 8, 0));
        same("no way", past, state, x -> x.plan(3, 8, 0, 15, 8, 0, true));
    }

    private void withSomething() {
        Class<?> state = IllegalStateException.class;
        Past past = Twins::something;
        same("two corners", past, state, x -> x.polygon());
        same("taken away", past, state, x -> x.takeAway(0));
        same("no way", past, state, x -> x.plan(3, 8, 0, 15, 8, 0, true));
        same("a begin that is not free", past, state, x -> x.begin(7, 7, 0));
        same("a move that cannot be driven", Twins::somethingBeforeAWall, state, x -> x.drive(0));
        same("a plan that cannot be driven", past, state, x -> x.shorten(2));
        same("what of a plan", past, IllegalArgumentException.class, x -> x.planOf(1, 5));
    }

    private static void somethingBeforeAWall(Swervewright x) {
        something(x);
        x.begin(3, 7, 0);
    }

    private void whenFull() {
        Class<?> state = IllegalStateException.class;
        Past past = Twins::full;
        same("a seventh corner", past, state, x -> x.corner(9, 9));
        same("a ninth polygon", past, state, x -> x.polygon());
        same("a thirteenth plan", past, state, x -> x.plan(3, 8, 0, 6, 8, 0, false));
        same("a thirteenth plan of a drive", past, state, x -> x.keep());
        same("a move behind 60", past, state, x -> x.drive(0));
        same("a begin that is not free", past, state, x -> x.begin(0, 8, 0));
    }

    private void same(String what, Past past, Class<?> exception, Refused refused) {
        Swervewright one = new Swervewright();
        past.tell(one);
        Swervewright other = new Swervewright();
        past.tell(other);
        c.thrown(what, exception, () -> refused.call(one));
        List<String> got = readOut(one);
        List<String> want = readOut(other);
        c.due(what + ", answers", got.size(), want.size());
        for (int at = 0; at < got.size() && at < want.size(); at++) {
            c.dueText(what + ", answer " + at + " then", got.get(at), want.get(at));
        }
    }

    private static List<String> readOut(Swervewright x) {
        List<String> all = new ArrayList<>();
        for (int what = 0; what < 4; what++) {
            all.add("found " + x.found(what));
        }
        for (int cell = 0; cell < 256; cell += 7) {
            all.add("clearance " + x.clearance(cell % 16, cell / 16));
            all.add("isFree " + x.isFree(cell % 16, cell / 16, cell % 8));
        }
        for (int number = 0; number < 12 && isPlan(x, number); number++) {
            readPlan(x, number, all);
        }
        readByChanging(x, all);
        return all;
    }

    private static boolean isPlan(Swervewright x, int number) {
        try {
            x.planOf(number, 0);
            return true;
        } catch (IndexOutOfBoundsException e) {
            return false;
        }
    }

    private static void readPlan(Swervewright x, int number, List<String> all) {
        for (int what = 0; what < 5; what++) {
            all.add("planOf " + x.planOf(number, what));
        }
        int count = x.planOf(number, 0);
        all.add("poseOf " + x.poseOf(number, 0) + " and " + x.poseOf(number, count));
        for (int at = 0; at < count && at < 6; at++) {
            all.add("moveOf " + x.moveOf(number, at) + ", speed " + x.speed(number, at));
        }
        all.add("peak " + x.peak(number));
    }

    /** What only shows in what later calls do: corners, costs, the drive, and the numbers that are given next. */
    private static void readByChanging(Swervewright x, List<String> all) {
        all.add("cusp " + answer(() -> x.cusp(7)));
        all.add("margin " + answer(() -> x.margin(1)));
        all.add("drive " + answer(() -> x.drive(0)));
        all.add("begin " + answer(() -> begun(x)));
        all.add("keep " + answer(() -> x.keep()));
        all.add("corner " + answer(() -> x.corner(12, 5)));
        all.add("polygon " + answer(() -> x.polygon()));
        all.add("forget " + answer(() -> x.forget()));
        for (int cell = 0; cell < 16; cell++) {
            all.add("clearance " + x.clearance(cell, 3));
        }
        for (int number = 0; number < 8; number++) {
            int polygon = number;
            all.add("takeAway " + answer(() -> x.takeAway(polygon)));
        }
        if (isPlan(x, 0)) {
            all.add("cost " + x.planOf(0, 1));
        }
    }

    /** Keeps the drive that is recorded, and tells of it, ahead of the first plan of a new one. */
    private static int begun(Swervewright x) {
        int plan = x.keep();
        int told = x.planOf(plan, 0) * 100 + x.planOf(plan, 1);
        x.begin(8, 12, 2);
        return told;
    }

    private interface Answer {
        int get();
    }

    private static String answer(Answer call) {
        try {
            return String.valueOf(call.get());
        } catch (RuntimeException e) {
            return e.getClass().getSimpleName();
        }
    }
}
