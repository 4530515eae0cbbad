/** What the document says under "Terms" of speeds. */
final class SpeedTerms {
    private static final float ODD = 1.4142135f;
    private static final float ARC = 1.0f + ODD;

    private final Checks c;

    SpeedTerms(Checks c) {
        this.c = c;
    }

    void all() {
        numbersAtFirst();
        lengths();
        eachOperationByItself();
        restsAtEnds();
        restsAtCusps();
        speedingUp();
        slowingDown();
    }

    /** No straight row in a field of 16 cells is long enough for a square of 100. */
    private void numbersAtFirst() {
        c.sentence("Terms", "There are four numbers, told: the greatest square of a speed in straight moves, 100 at "
                + "first, and in arcs, 25 at first, by how much it can speed up, 2 at first, and slow down, 3 at "
                + "first.");
        Swervewright x = Calls.withVehicle(0, 0);
        int straight = Calls.drive(x, 4, 8, 0, 0, 0, 0, 0, 0);
        c.squares("up by 2, down by 3", x, straight, 0.0f, 4.0f, 8.0f, 12.0f, 6.0f, 0.0f);
        int arcs = Calls.drive(x, 8, 11, 0, 1, 1, 1, 1, 1, 1);
        c.squares("25 in arcs", x, arcs, 0.0f, 4.0f * ARC, 4.0f * ARC + 4.0f * ARC, 25.0f, 25.0f, 6.0f * ARC, 0.0f);
        int field = Calls.drive(x, 0, 0, 1, 0, 0, 0, 0, 0, 0, 0, 0, 0, 0, 0, 0, 0, 0, 0);
        c.due("more than 25 in straight moves", x.peak(field), 50);
    }

    private void lengths() {
        c.sentence("Terms", "A step is 1.0f long in an even heading, 1.4142135f in an odd one; an arc is its first "
                + "step and its second one, in forward driving, together.");
        for (int heading = 0; heading < 8; heading++) {
            Swervewright x = new Swervewright();
            x.speeds(10000, 10000, 3, 1000);
            float straight = 6.0f * (heading % 2 == 0 ? 1.0f : ODD);
            for (int move = 0; move < 6; move++) {
                int plan = Calls.drive(x, 8, 8, heading, move, move);
                float want = move % 3 == 0 ? straight : 6.0f * ARC;
                c.dueFloat("heading " + heading + ", move " + move, x.speed(plan, 1), want);
            }
        }
        c.dueTrue("an arc's steps are put together first", 6.0f * ARC != 6.0f + 6.0f * ODD);
    }

    private void eachOperationByItself() {
        c.sentence("Terms", "Squares of speeds are told for all poses of a plan, as floats, each operation by itself");
        Swervewright x = new Swervewright();
        x.speeds(10000, 10000, 3, 1000);
        int plan = Calls.drive(x, 1, 1, 1, 0, 0, 0, 0, 0, 0, 0, 0);
        float more = 6.0f * ODD;
        float square = 0.0f;
        for (int at = 0; at < 8; at++) {
            c.dueFloat("pose " + at, x.speed(plan, at), square);
            square = square + more;
        }
        c.dueFloat("the last pose", x.speed(plan, 8), 0.0f);
        c.dueTrue("six at once would be another number", more + more + more + more + more + more != 6.0f * more);
    }

    private void restsAtEnds() {
        c.sentence("Terms", "0.0f at the first and the last one");
        Swervewright x = new Swervewright();
        c.squares("without moves", x, Calls.drive(x, 8, 8, 0), 0.0f);
        c.squares("one move", x, Calls.drive(x, 8, 8, 0, 0), 0.0f, 0.0f);
        c.squares("one arc", x, Calls.drive(x, 8, 8, 0, 2), 0.0f, 0.0f);
        c.squares("one in reverse", x, Calls.drive(x, 8, 8, 0, 3), 0.0f, 0.0f);
        c.squares("two moves", x, Calls.drive(x, 8, 8, 0, 0, 0), 0.0f, 4.0f, 0.0f);
        c.squares("two in reverse", x, Calls.drive(x, 8, 8, 0, 3, 3), 0.0f, 4.0f, 0.0f);
    }

    private void restsAtCusps() {
        c.sentence("Terms", "and at cusps");
        Swervewright x = new Swervewright();
        c.squares("a cusp", x, Calls.drive(x, 8, 8, 0, 0, 3), 0.0f, 0.0f, 0.0f);
        c.squares("cusps at all poses", x, Calls.drive(x, 8, 8, 0, 0, 3, 0, 3), 0.0f, 0.0f, 0.0f, 0.0f, 0.0f);
        c.squares("two each", x, Calls.drive(x, 8, 8, 0, 0, 0, 3, 3), 0.0f, 4.0f, 0.0f, 4.0f, 0.0f);
        c.squares("from reverse", x, Calls.drive(x, 8, 8, 0, 3, 3, 3, 0, 0), 0.0f, 4.0f, 6.0f, 0.0f, 4.0f, 0.0f);
        c.squares("an arc and its reverse", x, Calls.drive(x, 8, 8, 0, 1, 4), 0.0f, 0.0f, 0.0f);
        c.squares("two kinds without a cusp", x, Calls.drive(x, 8, 8, 0, 3, 4), 0.0f, 4.0f, 0.0f);
    }

    private void speedingUp() {
        c.sentence("Terms", "otherwise, from the first one on, the least of the greatest ones of the move ahead and "
                + "the move behind, and of that at the pose ahead and twice the speeding up, times the length of "
                + "the move between, together");
        Swervewright x = new Swervewright();
        int plan = Calls.drive(x, 3, 8, 0, 0, 0, 1, 2, 0, 0);
        x.speeds(50, 9, 10, 1000);
        c.squares("no more than in the move behind or ahead", x, plan, 0.0f, 20.0f, 9.0f, 9.0f, 9.0f, 29.0f, 0.0f);
        x.speeds(9, 50, 10, 1000);
        c.squares("straight ones are slower", x, plan, 0.0f, 9.0f, 9.0f, 50.0f, 9.0f, 9.0f, 0.0f);
        x.speeds(20, 10000, 10, 1000);
        c.squares("just as much", x, plan, 0.0f, 20.0f, 20.0f, 20.0f + 20.0f * ARC, 20.0f, 20.0f, 0.0f);
        x.speeds(19, 19, 10, 1000);
        c.squares("one less", x, plan, 0.0f, 19.0f, 19.0f, 19.0f, 19.0f, 19.0f, 0.0f);
        x.speeds(21, 21, 10, 1000);
        c.squares("one more", x, plan, 0.0f, 20.0f, 21.0f, 21.0f, 21.0f, 21.0f, 0.0f);
    }

    private void slowingDown() {
        c.sentence("Terms", "then, from the last one on, the lesser one of that, and of that at the pose behind and "
                + "twice the slowing down, times the length of the move between, together.");
        Swervewright x = new Swervewright();
        int plan = Calls.drive(x, 3, 8, 0, 0, 0, 1, 2, 0, 0);
        x.speeds(50, 9, 1000, 1);
        c.squares("slowly down to the end", x, plan, 0.0f, 11.0f, 9.0f, 4.0f + 2.0f * ARC, 4.0f, 2.0f, 0.0f);
        x.speeds(50, 9, 1000, 10);
        c.squares("down to an arc as well", x, plan, 0.0f, 29.0f, 9.0f, 9.0f, 9.0f, 20.0f, 0.0f);
        int cusp = Calls.drive(x, 3, 8, 0, 0, 0, 0, 3, 3);
        x.speeds(50, 9, 1000, 1);
        c.squares("down to a cusp", x, cusp, 0.0f, 4.0f, 2.0f, 0.0f, 2.0f, 0.0f);
        int odd = Calls.drive(x, 3, 3, 1, 0, 0, 0);
        c.squares("in an odd heading", x, odd, 0.0f, 2.0f * ODD + 2.0f * ODD, 2.0f * ODD, 0.0f);
    }
}
