/** Promises 24 to 26, sentence by sentence. */
final class SpeedEdges {
    private static final int MIN = Integer.MIN_VALUE;
    private static final int MAX = Integer.MAX_VALUE;
    private static final float ODD = 1.4142135f;

    private final Checks c;

    SpeedEdges(Checks c) {
        this.c = c;
    }

    void all() {
        promise24();
        promise25();
        promise26();
    }

    private void promise24() {
        Swervewright x = new Swervewright();
        int straight = Calls.drive(x, 8, 8, 0, 0, 0);
        int arcs = Calls.drive(x, 8, 8, 0, 1, 1);
        c.sentence(24, "Tells the numbers for speeds.");
        x.speeds(7, 5, 1000, 1000);
        c.dueFloat("in straight moves", x.speed(straight, 1), 7.0f);
        c.dueFloat("in arcs", x.speed(arcs, 1), 5.0f);
        x.speeds(7, 5, 1, 1000);
        c.dueFloat("faster", x.speed(straight, 1), 2.0f);
        x.speeds(7, 5, 1000, 2);
        c.dueFloat("slower", x.speed(straight, 1), 4.0f);
        c.sentence(24, "`straight`: 1 to 10000");
        x.speeds(1, 5, 1000, 1000);
        c.dueFloat("the least", x.speed(straight, 1), 1.0f);
        x.speeds(10000, 5, 1000, 1000);
        c.dueFloat("the greatest is more than it gets", x.speed(straight, 1), 2000.0f);
        c.sentence(24, "`arc`: 1 to 10000");
        x.speeds(5, 1, 1000, 1000);
        c.dueFloat("the least", x.speed(arcs, 1), 1.0f);
        x.speeds(5, 10000, 1000, 1000);
        c.dueFloat("the greatest is more than it gets", x.speed(arcs, 1), 2000.0f * (1.0f + ODD));
        c.sentence(24, "`faster`: 1 to 1000");
        x.speeds(10000, 10000, 1, 1000);
        c.dueFloat("the least", x.speed(straight, 1), 2.0f);
        x.speeds(10000, 10000, 1000, 1000);
        c.dueFloat("the greatest", x.speed(straight, 1), 2000.0f);
        c.sentence(24, "`slower`: 1 to 1000");
        x.speeds(10000, 10000, 1000, 1);
        c.dueFloat("the least", x.speed(straight, 1), 2.0f);
        x.speeds(10000, 10000, 1000, 1000);
        c.dueFloat("the greatest", x.speed(straight, 1), 2000.0f);
        refusedSpeeds();
        greatestSquares();
    }

    private void refusedSpeeds() {
        c.sentence(24, "Throws `IllegalArgumentException` if one is out of range");
        Swervewright x = new Swervewright();
        int plan = Calls.drive(x, 2, 8, 0, 0, 0, 0, 0);
        int[] most = {10000, 10000, 1000, 1000};
        for (int argument = 0; argument < 4; argument++) {
            int[] values = {0, -1, most[argument] + 1, MIN, MAX};
            for (int value : values) {
                int[] told = {9, 9, 9, 9};
                told[argument] = value;
                c.argument("argument " + argument + ", " + value, () -> x.speeds(told[0], told[1], told[2], told[3]));
            }
        }
        c.argument("all", () -> x.speeds(0, 0, 0, 0));
        c.squares("nothing changed", x, plan, 0.0f, 4.0f, 8.0f, 6.0f, 0.0f);
    }

    /** In an odd heading ten moves get more than 10000, of speeding up by 1000 each. */
    private void greatestSquares() {
        c.sentence(24, "`straight`: 1 to 10000");
        Swervewright x = new Swervewright();
        int plan = Calls.drive(x, 1, 1, 1, 0, 0, 0, 0, 0, 0, 0, 0, 0, 0, 0, 0);
        x.speeds(10000, 1, 1000, 1000);
        c.due("the greatest that can be told", x.peak(plan), 10000);
        x.speeds(9999, 1, 1000, 1000);
        c.due("one less", x.peak(plan), 9999);
        c.sentence(24, "`arc`: 1 to 10000");
        int arcs = Calls.drive(x, 8, 11, 0, 1, 1, 1, 1, 1, 1);
        x.speeds(1, 10000, 1000, 1000);
        c.due("the greatest that can be told", x.peak(arcs), 10000);
        x.speeds(1, 9999, 1000, 1000);
        c.due("one less", x.peak(arcs), 9999);
    }

    private void promise25() {
        Swervewright x = new Swervewright();
        c.sentence(25, "Throws `IndexOutOfBoundsException` if there is no such plan or pose");
        c.index("no such plan", () -> x.speed(0, 0));
        int still = Calls.drive(x, 8, 8, 0);
        c.index("behind the only pose", () -> x.speed(still, 1));
        c.index("ahead of the only pose", () -> x.speed(still, -1));
        int plan = Calls.drive(x, 2, 8, 0, 0, 0, 0, 0);
        c.sentence(25, "`plan`: its number");
        c.index("one less", () -> x.speed(-1, 0));
        c.dueFloat("the least", x.speed(0, 0), 0.0f);
        c.dueFloat("the greatest", x.speed(1, 1), 4.0f);
        c.index("one more", () -> x.speed(2, 0));
        c.index("far out", () -> x.speed(MAX, 0));
        c.sentence(25, "`at`: 0 for the first pose");
        c.index("ahead of it", () -> x.speed(plan, -1));
        c.dueFloat("the first pose", x.speed(plan, 0), 0.0f);
        c.dueFloat("the last pose", x.speed(plan, 4), 0.0f);
        c.index("behind it", () -> x.speed(plan, 5));
        c.index("far out, below", () -> x.speed(plan, MIN));
        c.index("far out, above", () -> x.speed(plan, MAX));
        c.sentence(25, "Returns the square of the speed at a pose of a plan.");
        float[] want = {0.0f, 4.0f, 8.0f, 6.0f, 0.0f};
        for (int at = 4; at >= 0; at--) {
            c.dueFloat("pose " + at, x.speed(plan, at), want[at]);
        }
        int longer = Calls.drive(x, 1, 1, 1, 0, 0, 0, 0, 0, 0, 0);
        c.dueFloat("of another plan", x.speed(longer, 5), 6.0f * ODD + 6.0f * ODD);
        c.dueFloat("of the first one again", x.speed(plan, 3), 6.0f);
        x.shorten(Calls.drive(x, 8, 8, 0, 0, 3));
        c.dueFloat("of a plan that was shortened to no moves", x.speed(3, 0), 0.0f);
    }

    private void promise26() {
        Swervewright x = new Swervewright();
        c.sentence(26, "Throws `IndexOutOfBoundsException` if there is no such plan");
        c.index("there is none", () -> x.peak(0));
        int still = Calls.drive(x, 8, 8, 0);
        c.sentence(26, "`plan`: its number");
        c.index("one less", () -> x.peak(-1));
        c.index("one more", () -> x.peak(1));
        c.index("far out", () -> x.peak(MIN));
        c.index("far out, above", () -> x.peak(MAX));
        c.sentence(26, "Returns the greatest square of the speeds of a plan, cut to an int.");
        c.due("without moves", x.peak(still), 0);
        c.due("one move", x.peak(Calls.drive(x, 8, 8, 0, 0)), 0);
        c.due("two moves", x.peak(Calls.drive(x, 8, 8, 0, 0, 0)), 4);
        // 4 times 1.4142135 is 5.65; 6 times is 8.48
        c.due("cut, not rounded", x.peak(Calls.drive(x, 8, 8, 1, 0, 0)), 5);
        c.due("cut below a half", x.peak(Calls.drive(x, 8, 8, 1, 0, 0, 0)), 8);
        c.due("a cusp at each pose", x.peak(Calls.drive(x, 8, 8, 0, 0, 3, 0)), 0);
        c.due("the greatest of two parts", x.peak(Calls.drive(x, 6, 8, 0, 0, 0, 3, 3, 3)), 6);
        x.speeds(3, 1, 2, 3);
        c.due("as told now", x.peak(2), 3);
        c.due("the greatest plan", x.peak(6), 3);
        c.index("behind it", () -> x.peak(7));
    }
}
