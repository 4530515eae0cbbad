/** What the document says under "Terms" of exceptions. */
final class RefusalTerms {
    private static final int MIN = Integer.MIN_VALUE;
    private static final int MAX = Integer.MAX_VALUE;

    private final Checks c;

    RefusalTerms(Checks c) {
        this.c = c;
    }

    void all() {
        noSuch();
        outOfRange();
        asTold();
        firstOfSeveral();
        changesNothing();
    }

    private void noSuch() {
        c.sentence("Terms", "IndexOutOfBoundsException: there is no such cell, heading, polygon, plan, move or pose.");
        Swervewright x = new Swervewright();
        int plan = Calls.drive(x, 8, 8, 0, 0);
        int[] far = {MIN, -1, MAX};
        for (int no : far) {
            c.index("no such x", () -> x.clearance(no, 0));
            c.index("no such y", () -> x.clearance(0, no));
            c.index("no such heading", () -> x.isFree(8, 8, no));
            c.index("no such polygon", () -> x.takeAway(no));
            c.index("no such plan", () -> x.planOf(no, 0));
            c.index("no such move of a plan", () -> x.moveOf(plan, no));
            c.index("no such pose of a plan", () -> x.poseOf(plan, no));
            c.index("no such segment", () -> x.segment(plan, no));
            c.index("no such speed", () -> x.speed(plan, no));
            c.index("no such move", () -> x.drive(no));
            c.index("no such plan to shorten", () -> x.shorten(no));
            c.index("no such plan with a peak", () -> x.peak(no));
        }
    }

    private void outOfRange() {
        c.sentence("Terms", "IllegalArgumentException: another argument is out of range.");
        Swervewright x = new Swervewright();
        int plan = Calls.drive(x, 8, 8, 0, 0);
        int[] far = {MIN, -1, MAX};
        for (int no : far) {
            c.argument("a corner's x", () -> x.corner(no, 0));
            c.argument("a corner's y", () -> x.corner(0, no));
            c.argument("a front", () -> x.vehicle(no, 0));
            c.argument("a behind", () -> x.vehicle(0, no));
            c.argument("a cusp's cost", () -> x.cusp(no));
            c.argument("a margin", () -> x.margin(no));
            c.argument("what was found", () -> x.found(no));
            c.argument("what of a plan", () -> x.planOf(plan, no));
            c.argument("a square", () -> x.speeds(no, 1, 1, 1));
            c.argument("slowing down", () -> x.speeds(1, 1, 1, no));
        }
    }

    private void asTold() {
        c.sentence("Terms", "IllegalStateException: as told.");
        Swervewright x = new Swervewright();
        c.state("no corners", () -> x.polygon());
        c.state("no drive to go on", () -> x.drive(0));
        c.state("no drive to keep", () -> x.keep());
        c.state("not free", () -> x.begin(0, 0, 0));
        c.state("no way", () -> x.plan(0, 0, 0, 8, 8, 0, true));
        int polygon = Calls.block(x, 0, 0);
        x.takeAway(polygon);
        c.state("taken away", () -> x.takeAway(polygon));
        int plan = x.plan(0, 0, 0, 0, 0, 0, true);
        c.state("cannot be driven", () -> x.shorten(plan));
    }

    private void firstOfSeveral() {
        c.sentence("Terms", "If several exceptions of a throws clause apply, the one that is listed first is thrown.");
        Swervewright x = new Swervewright();
        c.index("drive: no such move, and no drive", () -> x.drive(6));
        c.index("planOf: no such plan, and not told", () -> x.planOf(0, 5));
        c.index("plan: no such heading, and no way", () -> x.plan(0, 0, 0, 8, 8, 8, true));
        c.index("plan: no such cell, and not free", () -> x.plan(0, 0, 0, 16, 8, 0, true));
        for (int corner = 0; corner < 6; corner++) {
            x.corner(corner, corner);
        }
        c.argument("corner: x out of range, and there are 6", () -> x.corner(17, 0));
        c.argument("corner: y out of range, and there are 6", () -> x.corner(0, -1));
        x.begin(8, 8, 0);
        for (int move = 0; move < 60; move++) {
            x.drive(move % 2 == 0 ? 0 : 3);
        }
        c.index("drive: no such move, and there are 60", () -> x.drive(-1));
        x.keep();
        for (int plan = 1; plan < 12; plan++) {
            Calls.drive(x, 8, 8, 0);
        }
        c.index("plan: no such cell, and there are 12", () -> x.plan(8, 8, 0, 8, 16, 0, true));
        c.index("plan: no such heading, and there are 12", () -> x.plan(8, 8, -1, 8, 8, 0, true));
    }

    private void changesNothing() {
        c.sentence("Terms", "A call that throws an exception changes nothing.");
        new Twins(c).all();
    }
}
