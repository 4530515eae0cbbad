import java.util.Random;

/** Random runs of calls, the same ones each time, of which every answer is held against the model's. */
public final class RandomRunsTest {
    private static final int RUNS = 160;
    /** What an object answers after so many calls is free. */
    private static final int MOST_CALLS = 512;

    /** An answer as text: a number, a float's bits, or the name of an exception. */
    private interface Answer {
        Object get();
    }

    private final Checks checks = new Checks("RandomRunsTest");
    private Random random;
    private Swervewright it;
    private Model model;
    private int run;
    private int call;
    private int callsOfObject;
    private boolean isWild;
    private int nearX;
    private int nearY;

    public static void main(String[] args) {
        new RandomRunsTest().all();
    }

    private void all() {
        for (run = 0; run < RUNS; run++) {
            random = new Random(1000 + run);
            beginAnew();
            isWild = run % 4 == 3;
            int calls = 80 + random.nextInt(MOST_CALLS - 100);
            while (callsOfObject < calls) {
                one();
            }
            shortenPlans();
            readPlans();
            clearField();
            shortenPlans();
            readPlans();
            walks();
        }
        lanes();
        checks.end();
    }

    private void beginAnew() {
        it = new Swervewright();
        model = new Model();
        callsOfObject = 0;
    }

    private static Object answer(Answer call) {
        try {
            return call.get();
        } catch (IndexOutOfBoundsException e) {
            return "IndexOutOfBoundsException";
        } catch (IllegalArgumentException e) {
            return "IllegalArgumentException";
        } catch (IllegalStateException e) {
            return "IllegalStateException";
        }
    }

    /** The class may throw nothing but the exceptions themselves, none of those below them. */
    private static Object strictAnswer(Answer call) {
        try {
            return call.get();
        } catch (RuntimeException e) {
            return e.getClass().getSimpleName();
        }
    }

    private void same(String what, Answer got, Answer want) {
        if (callsOfObject >= MOST_CALLS) {
            return;
        }
        callsOfObject++;
        call++;
        Object due = answer(want);
        Object is = strictAnswer(got);
        checks.dueTrue("run " + run + " call " + call + ": " + what + " (" + is + ", due is " + due + ")", due.equals(is));
    }

    private void sameDone(String what, Runnable got, Runnable want) {
        same(what, () -> done(got), () -> done(want));
    }

    private static Object done(Runnable call) {
        call.run();
        return "done";
    }

    /** Mostly from least to most; in wild runs now and then outside. */
    private int from(int least, int most) {
        if (isWild && random.nextInt(12) == 0) {
            int[] odd = {least - 1, most + 1, Integer.MIN_VALUE, Integer.MAX_VALUE, -1, most + 100};
            return odd[random.nextInt(odd.length)];
        }
        return least + random.nextInt(most - least + 1);
    }

    private void one() {
        int kind = random.nextInt(100);
        if (kind < 16) {
            outline();
        } else if (kind < 26) {
            settings();
        } else if (kind < 36) {
            cells();
        } else if (kind < 46) {
            words();
        } else if (kind < 52) {
            ways();
        } else if (kind < 58) {
            planned();
        } else if (kind < 84) {
            driven();
        } else {
            read();
        }
    }

    private void outline() {
        int kind = random.nextInt(8);
        if (kind < 5) {
            boolean isNear = run % 3 != 0;
            int x = isNear ? nearX + from(0, 6) : from(0, 16);
            int y = isNear ? nearY + from(0, 6) : from(0, 16);
            same("corner(" + x + ", " + y + ")", () -> it.corner(x, y), () -> model.corner(x, y));
        } else if (kind == 5) {
            same("polygon()", () -> it.polygon(), () -> model.polygon());
            nearX = random.nextInt(11);
            nearY = random.nextInt(11);
        } else if (kind == 6) {
            int number = from(0, 7);
            same("takeAway(" + number + ")", () -> it.takeAway(number), () -> model.takeAway(number));
        } else if (random.nextInt(4) == 0) {
            same("forget()", () -> it.forget(), () -> model.forget());
        }
    }

    private void settings() {
        int a = from(0, 2);
        int b = from(0, 2);
        int cost = from(0, 100);
        int cells = from(0, 5);
        int[] s = {from(1, 400), from(1, 400), from(1, 20), from(1, 20)};
        switch (random.nextInt(4)) {
            case 0:
                sameDone("vehicle(" + a + ", " + b + ")", () -> it.vehicle(a, b), () -> model.vehicle(a, b));
                return;
            case 1:
                same("cusp(" + cost + ")", () -> it.cusp(cost), () -> model.cusp(cost));
                return;
            case 2:
                same("margin(" + cells + ")", () -> it.margin(cells), () -> model.margin(cells));
                return;
            default:
                sameDone("speeds", () -> it.speeds(s[0], s[1], s[2], s[3]), () -> model.speeds(s[0], s[1], s[2], s[3]));
        }
    }

    private void cells() {
        int x = from(0, 15);
        int y = from(0, 15);
        int h = from(0, 7);
        same("clearance(" + x + ", " + y + ")", () -> it.clearance(x, y), () -> model.clearance(x, y));
        same("isFree(" + x + ", " + y + ", " + h + ")", () -> it.isFree(x, y, h), () -> model.isFree(x, y, h));
    }

    private int[] twoPoses() {
        int[] p = {from(0, 15), from(0, 15), from(0, 7), from(0, 15), from(0, 15), from(0, 7)};
        if (random.nextInt(20) == 0) {
            System.arraycopy(p, 0, p, 3, 3);
        }
        return p;
    }

    private static String told(int[] p) {
        return "(" + p[0] + ", " + p[1] + ", " + p[2] + ", " + p[3] + ", " + p[4] + ", " + p[5] + ")";
    }

    private void words() {
        int[] p = twoPoses();
        int what = from(0, 3);
        same("word" + told(p), () -> it.word(p[0], p[1], p[2], p[3], p[4], p[5]),
                () -> model.word(p[0], p[1], p[2], p[3], p[4], p[5]));
        same("found(" + what + ")", () -> it.found(what), () -> model.found(what));
    }

    private void ways() {
        int[] p = twoPoses();
        boolean r = random.nextInt(3) > 0;
        Answer due = () -> model.cheapest(p[0], p[1], p[2], p[3], p[4], p[5], r);
        Object answer = answer(due);
        same("cheapest" + told(p) + r, () -> it.cheapest(p[0], p[1], p[2], p[3], p[4], p[5], r), () -> again(answer, due));
        same("cheapestAnew" + told(p) + r, () -> it.cheapestAnew(p[0], p[1], p[2], p[3], p[4], p[5], r),
                () -> again(answer, due));
    }

    private static Object again(Object answer, Answer due) {
        return answer instanceof Integer ? answer : due.get();
    }

    private void planned() {
        int[] p = twoPoses();
        boolean r = random.nextInt(3) > 0;
        same("plan" + told(p) + r, () -> it.plan(p[0], p[1], p[2], p[3], p[4], p[5], r),
                () -> model.plan(p[0], p[1], p[2], p[3], p[4], p[5], r));
    }

    private void driven() {
        int kind = random.nextInt(20);
        if (kind < 3) {
            int x = from(0, 15);
            int y = from(0, 15);
            int h = from(0, 7);
            sameDone("begin(" + x + ", " + y + ", " + h + ")", () -> it.begin(x, y, h), () -> model.begin(x, y, h));
        } else if (kind < 17) {
            for (int tries = random.nextInt(12); tries >= 0; tries--) {
                int move = from(0, 5);
                same("drive(" + move + ")", () -> it.drive(move), () -> model.drive(move));
            }
        } else if (kind < 19) {
            same("keep()", () -> it.keep(), () -> model.keep());
        } else {
            int plan = from(0, 11);
            same("shorten(" + plan + ")", () -> it.shorten(plan), () -> model.shorten(plan));
        }
    }

    private void read() {
        int plan = from(0, random.nextInt(3) == 0 ? 11 : 3);
        int at = from(-1, random.nextInt(3) == 0 ? 40 : 6);
        int what = from(0, 4);
        String told = "(" + plan + ", " + at + ")";
        same("planOf(" + plan + ", " + what + ")", () -> it.planOf(plan, what), () -> model.planOf(plan, what));
        same("moveOf" + told, () -> it.moveOf(plan, at), () -> model.moveOf(plan, at));
        same("poseOf" + told, () -> it.poseOf(plan, at), () -> model.poseOf(plan, at));
        same("segment" + told, () -> it.segment(plan, at), () -> model.segment(plan, at));
        same("speed" + told, () -> it.speed(plan, at), () -> model.speed(plan, at));
        same("peak(" + plan + ")", () -> it.peak(plan), () -> model.peak(plan));
    }

    private void clearField() {
        for (int number = 0; number < 8; number++) {
            int polygon = number;
            same("takeAway(" + polygon + ")", () -> it.takeAway(polygon), () -> model.takeAway(polygon));
        }
    }

    /** Long drives in the open, with some arcs and cusps, on a new object, for shortening. */
    private void walks() {
        beginAnew();
        isWild = false;
        int[] s = {random.nextInt(101), random.nextInt(6), random.nextInt(3), random.nextInt(3)};
        same("cusp(" + s[0] + ")", () -> it.cusp(s[0]), () -> model.cusp(s[0]));
        same("margin(" + s[1] + ")", () -> it.margin(s[1]), () -> model.margin(s[1]));
        sameDone("vehicle(" + s[2] + ", " + s[3] + ")", () -> it.vehicle(s[2], s[3]), () -> model.vehicle(s[2], s[3]));
        for (int walk = 0; walk < 3; walk++) {
            if (walk == 1) {
                smallPolygon();
            }
            sameDone("begin(8, 8, 0)", () -> it.begin(8, 8, 0), () -> model.begin(8, 8, 0));
            int tries = 10 + random.nextInt(walk == 0 && run % 10 == 0 ? 200 : 25);
            for (int tried = 0; tried < tries; tried++) {
                int move = random.nextInt(4) > 0 ? random.nextInt(3) : random.nextInt(6);
                same("drive(" + move + ")", () -> it.drive(move), () -> model.drive(move));
            }
            same("keep()", () -> it.keep(), () -> model.keep());
        }
        shortenPlans();
        readPlans();
    }

    /** A plan of a hundred moves between walls, that is shortened when some of them, and then all, are away. */
    private void lanes() {
        beginAnew();
        sameDone("vehicle(0, 0)", () -> it.vehicle(0, 0), () -> model.vehicle(0, 0));
        for (int wall = 0; wall < 7; wall++) {
            int left = wall % 2 == 0 ? 0 : 3;
            int y = 2 * wall + 1;
            int[][] corners = {{left, y}, {left + 13, y}, {left + 13, y + 1}, {left, y + 1}};
            for (int[] c : corners) {
                same("corner(" + c[0] + ", " + c[1] + ")", () -> it.corner(c[0], c[1]), () -> model.corner(c[0], c[1]));
            }
            same("polygon()", () -> it.polygon(), () -> model.polygon());
        }
        same("plan of lanes", () -> it.plan(0, 0, 0, 0, 14, 0, true), () -> model.plan(0, 0, 0, 0, 14, 0, true));
        readPlan(0, 4);
        for (int wall = 0; wall < 3; wall++) {
            int polygon = wall * 2 + 1;
            same("takeAway(" + polygon + ")", () -> it.takeAway(polygon), () -> model.takeAway(polygon));
        }
        same("shorten lanes", () -> it.shorten(0), () -> model.shorten(0));
        readPlan(0, 2);
        clearField();
        same("shorten lanes again", () -> it.shorten(0), () -> model.shorten(0));
        readPlan(0, 1);
    }

    private void smallPolygon() {
        int x = random.nextInt(2) * 9 + random.nextInt(4);
        int y = random.nextInt(13);
        int[][] corners = {{x, y}, {x + 3, y + random.nextInt(2)}, {x + random.nextInt(4), y + 3}};
        for (int[] c : corners) {
            same("corner(" + c[0] + ", " + c[1] + ")", () -> it.corner(c[0], c[1]), () -> model.corner(c[0], c[1]));
        }
        same("polygon()", () -> it.polygon(), () -> model.polygon());
    }

    /** At a run's end every plan is shortened, after its cost is read. */
    private void shortenPlans() {
        for (int number = 0; number < 13; number++) {
            int plan = number;
            same("planOf(" + plan + ", 1)", () -> it.planOf(plan, 1), () -> model.planOf(plan, 1));
            same("shorten(" + plan + ")", () -> it.shorten(plan), () -> model.shorten(plan));
        }
    }

    /** As many plans as there are calls left for, each one whole, from one of chance on. */
    private void readPlans() {
        int first = random.nextInt(12);
        for (int number = 0; number < 12; number++) {
            readPlan((first + number) % 12, 1);
        }
        readPlan(12, 1);
    }

    private void readPlan(int plan, int stride) {
        for (int what = 0; what < 5; what++) {
            int w = what;
            same("planOf(" + plan + ", " + w + ")", () -> it.planOf(plan, w), () -> model.planOf(plan, w));
        }
        Object count = answer(() -> model.planOf(plan, 0));
        int moves = count instanceof Integer ? (Integer) count : 0;
        for (int at = moves + 1; at >= 0; at -= stride) {
            int a = at;
            same("moveOf(" + plan + ", " + a + ")", () -> it.moveOf(plan, a), () -> model.moveOf(plan, a));
            same("poseOf(" + plan + ", " + a + ")", () -> it.poseOf(plan, a), () -> model.poseOf(plan, a));
            same("speed(" + plan + ", " + a + ")", () -> it.speed(plan, a), () -> model.speed(plan, a));
        }
        for (int at = 0; at < moves && at < 5 * stride; at += stride) {
            int a = at;
            same("segment(" + plan + ", " + a + ")", () -> it.segment(plan, a), () -> model.segment(plan, a));
        }
        same("peak(" + plan + ")", () -> it.peak(plan), () -> model.peak(plan));
    }
}
