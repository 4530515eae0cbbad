/** Promises 15 to 23, sentence by sentence. */
final class PlanEdges {
    private static final int MIN = Integer.MIN_VALUE;
    private static final int MAX = Integer.MAX_VALUE;

    private final Checks c;

    PlanEdges(Checks c) {
        this.c = c;
    }

    void all() {
        promise15();
        refusedPlans();
        promise16();
        promise17();
        promise18();
        promise19();
        promise20();
        drivenOrNot();
        promise21();
        promise22();
        promise23();
    }

    private static Swervewright withPlans(int count) {
        Swervewright x = new Swervewright();
        for (int plan = 0; plan < count; plan++) {
            Calls.drive(x, 8, 8, 0);
        }
        return x;
    }

    private void promise15() {
        c.sentence(15, "Makes a plan of the cheapest way.");
        Swervewright x = new Swervewright();
        c.moves("straight on", x, x.plan(2, 8, 0, 5, 8, 0, false), 0, 0, 0);
        c.moves("an arc", x, x.plan(4, 8, 0, 6, 7, 7, true), 1);
        c.moves("to itself", x, x.plan(4, 8, 0, 4, 8, 0, true));
        c.moves("to itself, not free", x, x.plan(0, 0, 0, 0, 0, 0, false));
        c.sentence(15, "Returns its number.");
        c.due("the fifth", x.plan(4, 8, 0, 4, 8, 0, true), 4);
        c.due("behind a drive", Calls.drive(x, 8, 8, 0), 5);
        c.due("the seventh", x.plan(4, 8, 0, 4, 8, 0, true), 6);
        c.sentence(15, "`mayReverse`: whether it may have moves in reverse");
        c.moves("it may", x, x.plan(9, 2, 0, 2, 2, 0, true), 3, 3, 3, 3, 3, 3, 3);
        c.state("it may not", () -> x.plan(9, 2, 0, 2, 2, 0, false));
        WayEdges.twoPoses(c, 15, (a, b, d, e, f, g) -> planned(a, b, d, e, f, g));
    }

    /** The plan's number; NONE if there is no way. */
    private static int planned(int x, int y, int heading, int toX, int toY, int toHeading) {
        try {
            return new Swervewright().plan(x, y, heading, toX, toY, toHeading, true);
        } catch (IllegalStateException e) {
            return Swervewright.NONE;
        }
    }

    private void refusedPlans() {
        c.sentence(15, "Throws `IndexOutOfBoundsException` if there is no such cell or heading");
        Swervewright x = withPlans(11);
        int[][] wrong = {{-1, 8, 0, 8, 8, 0}, {16, 8, 0, 8, 8, 0}, {8, -1, 0, 8, 8, 0}, {8, 16, 0, 8, 8, 0},
            {8, 8, -1, 8, 8, 0}, {8, 8, 8, 8, 8, 0}, {8, 8, 0, -1, 8, 0}, {8, 8, 0, 16, 8, 0},
            {8, 8, 0, 8, -1, 0}, {8, 8, 0, 8, 16, 0}, {8, 8, 0, 8, 8, -1}, {8, 8, 0, 8, 8, 8},
            {MIN, MAX, MIN, MAX, MIN, MAX}};
        for (int[] w : wrong) {
            c.index("no such pose", () -> x.plan(w[0], w[1], w[2], w[3], w[4], w[5], true));
        }
        c.sentence(15, "Throws `IllegalStateException` if there is no way, or there are 12 plans");
        c.state("the second one is not free", () -> x.plan(8, 8, 0, 15, 8, 0, true));
        c.state("the first one is not free", () -> x.plan(0, 8, 0, 8, 8, 0, true));
        c.state("no way forward", () -> x.plan(9, 2, 0, 2, 2, 0, false));
        c.due("the twelfth", x.plan(9, 2, 0, 2, 2, 0, true), 11);
        c.state("there are 12", () -> x.plan(9, 2, 0, 2, 2, 0, true));
        c.state("there are 12, to itself", () -> x.plan(8, 8, 0, 8, 8, 0, true));
        for (int[] w : wrong) {
            c.index("no such pose is listed first", () -> x.plan(w[0], w[1], w[2], w[3], w[4], w[5], true));
        }
        c.index("there are no more", () -> x.planOf(12, 0));
    }

    private void promise16() {
        Swervewright x = Calls.withVehicle(0, 0);
        c.sentence(16, "Begins to record a drive, in place of one that is being recorded.");
        x.begin(8, 8, 0);
        x.drive(0);
        x.begin(3, 3, 1);
        c.due("in place of it", x.drive(1), 1);
        int plan = x.keep();
        c.due("its pose", x.poseOf(plan, 0), Calls.pose(3, 3, 1));
        c.moves("its moves", x, plan, 1);
        int[] most = {15, 15, 7};
        String[] sentences = {"`x`: 0 to 15", "`y`: 0 to 15", "`heading`: 0 to 7"};
        for (int argument = 0; argument < 3; argument++) {
            c.sentence(16, sentences[argument]);
            int[] values = {-1, most[argument] + 1, MIN, MAX};
            for (int value : values) {
                int[] p = {5, 5, 5};
                p[argument] = value;
                c.index("value " + value, () -> x.begin(p[0], p[1], p[2]));
            }
            int[] p = {5, 5, 5};
            p[argument] = 0;
            x.begin(p[0], p[1], p[2]);
            c.due("the least", x.poseOf(x.keep(), 0), Calls.pose(p[0], p[1], p[2]));
            p[argument] = most[argument];
            x.begin(p[0], p[1], p[2]);
            c.due("the greatest", x.poseOf(x.keep(), 0), Calls.pose(p[0], p[1], p[2]));
        }
        refusedBegins();
    }

    private void refusedBegins() {
        c.sentence(16, "Throws `IndexOutOfBoundsException` if there is no such cell or heading");
        Swervewright x = new Swervewright();
        x.begin(8, 8, 0);
        x.drive(0);
        c.index("no such cell", () -> x.begin(16, -1, 0));
        c.index("no such heading", () -> x.begin(8, 8, 8));
        c.due("the drive goes on", x.drive(0), 2);
        c.sentence(16, "Throws `IllegalStateException` if the pose is not free");
        c.state("off the field in front", () -> x.begin(15, 8, 0));
        c.state("off the field behind", () -> x.begin(0, 8, 0));
        Calls.block(x, 4, 8);
        c.state("blocked", () -> x.begin(4, 8, 2));
        c.state("blocked in front", () -> x.begin(3, 8, 0));
        c.state("blocked behind", () -> x.begin(5, 8, 0));
        c.due("the drive goes on then", x.drive(0), 3);
        Swervewright y = new Swervewright();
        c.state("not free", () -> y.begin(0, 0, 0));
        c.state("so nothing is recorded", () -> y.drive(0));
    }

    private void promise17() {
        Swervewright x = new Swervewright();
        c.sentence(17, "Throws `IndexOutOfBoundsException` if there is no such move");
        c.index("no such move goes ahead of no drive", () -> x.drive(6));
        c.index("below", () -> x.drive(-1));
        c.sentence(17, "Throws `IllegalStateException` if no drive is being recorded, the move cannot be driven, or "
                + "there are 60");
        c.state("no drive", () -> x.drive(0));
        x.begin(8, 8, 0);
        c.sentence(17, "`move`: 0 to 5");
        c.index("one less", () -> x.drive(-1));
        c.due("the least", x.drive(0), 1);
        c.due("the greatest", x.drive(5), 2);
        c.index("one more", () -> x.drive(6));
        c.index("far out", () -> x.drive(MIN));
        c.index("far out, above", () -> x.drive(MAX));
        c.sentence(17, "Drives a move, which is recorded.");
        c.moves("as recorded", x, x.keep(), 0, 5);
        c.state("no drive is being recorded any more", () -> x.drive(0));
        sixtyMoves();
        blockedMoves();
    }

    private void sixtyMoves() {
        c.sentence(17, "Returns how many there are.");
        Swervewright x = new Swervewright();
        x.begin(8, 11, 0);
        for (int move = 1; move <= 60; move++) {
            c.due("how many", x.drive(Swervewright.LEFT), move);
        }
        c.sentence(17, "or there are 60");
        c.state("a sixty-first", () -> x.drive(Swervewright.LEFT));
        c.state("of another kind", () -> x.drive(Swervewright.BACK));
        c.index("no such move goes ahead of that", () -> x.drive(6));
        int plan = x.keep();
        c.due("all of them", x.planOf(plan, 0), 60);
        c.due("in one segment", x.segment(plan, 0), 160);
        c.due("four eighths of a turn behind the seventh whole one", x.poseOf(plan, 60), Calls.pose(8, 5, 4));
        c.due("what it costs", x.planOf(plan, 1), 60 * 24);
        x.begin(8, 11, 0);
        c.due("from one again", x.drive(0), 1);
    }

    private void blockedMoves() {
        c.sentence(17, "the move cannot be driven");
        Swervewright x = new Swervewright();
        x.begin(13, 8, 0);
        c.due("up to the edge", x.drive(0), 1);
        c.state("off the field", () -> x.drive(0));
        c.state("off the field to the left", () -> x.drive(1));
        c.state("off the field to the right", () -> x.drive(2));
        Calls.block(x, 12, 8);
        c.state("behind the vehicle it is blocked", () -> x.drive(3));
        x.takeAway(0);
        c.due("back again", x.drive(3), 2);
        x.vehicle(2, 2);
        c.state("a longer vehicle", () -> x.drive(0));
        c.due("back it can", x.drive(3), 3);
    }

    private void promise18() {
        Swervewright x = new Swervewright();
        c.sentence(18, "Throws `IllegalStateException` if none is being recorded, or there are 12 plans");
        c.state("none", () -> x.keep());
        c.sentence(18, "Makes a plan of the drive, perhaps without moves, which is recorded no more.");
        x.begin(8, 8, 3);
        c.due("without moves", x.keep(), 0);
        c.due("its moves", x.planOf(0, 0), 0);
        c.due("its pose", x.poseOf(0, 0), Calls.pose(8, 8, 3));
        c.state("recorded no more", () -> x.keep());
        c.state("driven no more", () -> x.drive(0));
        c.sentence(18, "Returns its number.");
        for (int number = 1; number < 12; number++) {
            c.due("number", Calls.drive(x, 8, 8, 0, 0), number);
        }
        c.sentence(18, "or there are 12 plans");
        x.begin(8, 8, 0);
        x.drive(1);
        c.state("a thirteenth", () -> x.keep());
        c.due("it is still recorded", x.drive(4), 2);
        c.state("a thirteenth again", () -> x.keep());
        c.due("the others are as they were", x.planOf(11, 0), 1);
    }

    private void promise19() {
        c.sentence(19, "Shortens a plan.");
        Swervewright x = new Swervewright();
        int plan = Calls.drive(x, 3, 8, 0, 0, 1, 2, 2, 1, 0);
        c.sentence(19, "Returns by how much it costs less.");
        c.due("how much", x.shorten(plan), 16);
        c.due("nothing, the second time", x.shorten(plan), 0);
        int cheapest = x.plan(3, 8, 0, 12, 4, 6, false);
        c.due("nothing of the cheapest way", x.shorten(cheapest), 0);
        int still = Calls.drive(x, 3, 8, 0);
        c.due("nothing without moves", x.shorten(still), 0);
        int round = Calls.drive(x, 8, 11, 0, 1, 1, 1, 1, 1, 1, 1, 1);
        c.due("all of a circle", x.shorten(round), 8 * 24);
        c.due("no moves then", x.planOf(round, 0), 0);
        c.sentence(19, "`plan`: its number");
        c.index("one less", () -> x.shorten(-1));
        c.due("the least", x.shorten(0), 0);
        c.due("the greatest", x.shorten(3), 0);
        c.index("one more", () -> x.shorten(4));
        c.sentence(19, "Throws `IndexOutOfBoundsException` if there is no such plan");
        c.index("far out", () -> x.shorten(MIN));
        c.index("far out, above", () -> x.shorten(MAX));
        c.index("behind the twelfth", () -> withPlans(12).shorten(12));
        refusedShortening();
    }

    private void refusedShortening() {
        c.sentence(19, "Throws `IllegalStateException` if it cannot be driven, as the field and the vehicle are now");
        Swervewright x = new Swervewright();
        int plan = Calls.drive(x, 3, 8, 0, 0, 1, 2, 2, 1, 0);
        int still = Calls.drive(x, 2, 2, 0);
        int onTheWay = Calls.block(x, 8, 6);
        c.state("blocked on its way", () -> x.shorten(plan));
        x.takeAway(onTheWay);
        int ahead = Calls.block(x, 14, 8);
        c.state("blocked in front of its end", () -> x.shorten(plan));
        x.takeAway(ahead);
        int behind = Calls.block(x, 2, 8);
        c.state("blocked behind its pose", () -> x.shorten(plan));
        x.takeAway(behind);
        x.vehicle(2, 2);
        c.due("a longer vehicle that fits", x.planOf(plan, 4), 1);
        int between = Calls.block(x, 7, 6);
        c.state("blocked between two poses", () -> x.shorten(plan));
        x.takeAway(between);
        c.moves("nothing changed", x, plan, 0, 1, 2, 2, 1, 0);
        int there = Calls.block(x, 2, 2);
        c.state("without moves, its pose is blocked", () -> x.shorten(still));
        x.takeAway(there);
        c.due("it can be driven again", x.shorten(plan), 16);
        c.due("without moves, too", x.shorten(still), 0);
        int noPlace = x.plan(0, 0, 0, 0, 0, 0, true);
        c.state("without moves, its pose was never free", () -> x.shorten(noPlace));
    }

    private void promise20() {
        Swervewright x = new Swervewright();
        c.sentence(20, "Throws `IndexOutOfBoundsException` if there is no such plan");
        c.index("there is none", () -> x.planOf(0, 0));
        int plan = Calls.drive(x, 5, 8, 0, 0, 0, 1, 4, 3, 3, 2);
        c.index("one more", () -> x.planOf(1, 0));
        c.index("one less", () -> x.planOf(-1, 0));
        c.sentence(20, "`plan`: its number");
        c.due("the least", x.planOf(0, 0), 7);
        for (int number = 1; number < 12; number++) {
            Calls.drive(x, 5, 8, 0, 0, 3);
        }
        c.due("the greatest", x.planOf(11, 0), 2);
        c.index("behind the greatest", () -> x.planOf(12, 0));
        c.sentence(20, "Tells of a plan.");
        c.sentence(20, "Returns as told.");
        int[] want = {7, 10 + 10 + 24 + 20 + 24 + 10 + 10 + 20 + 24, 2, 5, 1};
        for (int what = 0; what <= 4; what++) {
            c.due("what " + what, x.planOf(plan, what), want[what]);
        }
        c.sentence(20, "Throws `IllegalArgumentException` if what is out of range");
        c.argument("one less", () -> x.planOf(plan, -1));
        c.argument("one more", () -> x.planOf(plan, 5));
        c.argument("far out", () -> x.planOf(plan, MIN));
        c.argument("far out, above", () -> x.planOf(plan, MAX));
        c.index("no such plan is listed first", () -> x.planOf(12, 5));
        c.index("no such plan is listed first, below", () -> x.planOf(-1, -1));
    }

    private void drivenOrNot() {
        c.sentence(20, "`what`: 0 how many moves it has, 1 what it costs now, driven or not, 2 how many cusps, 3 "
                + "how many segments, 4 whether it can be driven now, 1 or 0 (its first pose and all its moves)");
        Swervewright x = new Swervewright();
        int plan = Calls.drive(x, 5, 8, 0, 0, 0, 0);
        int still = Calls.drive(x, 5, 4, 0);
        int wall = Calls.block(x, 8, 8);
        x.margin(2);
        // the ends are 2 and 1 cells away, and then there
        c.due("it costs, though it cannot be driven", x.planOf(plan, 1), 30 + 0 + 5 + 10);
        c.due("it cannot", x.planOf(plan, 4), 0);
        c.due("its moves", x.planOf(plan, 0), 3);
        x.takeAway(wall);
        c.due("it can", x.planOf(plan, 4), 1);
        c.due("it costs less", x.planOf(plan, 1), 30);
        int[] none = {0, 0, 0, 0, 1};
        for (int what = 0; what <= 4; what++) {
            c.due("without moves, what " + what, x.planOf(still, what), none[what]);
        }
        Calls.block(x, 4, 4);
        c.due("its first pose is not free", x.planOf(still, 4), 0);
        Calls.block(x, 4, 8);
        c.due("its first pose is not free, nor its moves", x.planOf(plan, 4), 0);
        x.vehicle(1, 0);
        c.due("the shorter vehicle's is", x.planOf(plan, 4), 1);
        c.due("without moves, too", x.planOf(still, 4), 1);
        int noPlace = x.plan(4, 4, 0, 4, 4, 0, false);
        c.due("a plan whose pose was never free", x.planOf(noPlace, 4), 0);
    }

    private void promise21() {
        Swervewright x = new Swervewright();
        c.sentence(21, "Throws `IndexOutOfBoundsException` if there is no such plan or move");
        c.index("no such plan", () -> x.moveOf(0, 0));
        Calls.drive(x, 8, 8, 0);
        c.index("without moves", () -> x.moveOf(0, 0));
        c.index("without moves, one less", () -> x.moveOf(0, -1));
        int plan = Calls.drive(x, 8, 8, 0, 5, 4, 3, 2, 1, 0);
        c.sentence(21, "`plan`: its number");
        c.index("one less", () -> x.moveOf(-1, 0));
        c.due("the greatest", x.moveOf(1, 0), 5);
        c.index("one more", () -> x.moveOf(2, 0));
        c.index("far out", () -> x.moveOf(MAX, 0));
        c.sentence(21, "`at`: 0 for the first one");
        c.index("ahead of it", () -> x.moveOf(plan, -1));
        c.due("the first one", x.moveOf(plan, 0), 5);
        c.due("the last one", x.moveOf(plan, 5), 0);
        c.index("behind it", () -> x.moveOf(plan, 6));
        c.index("far out, below", () -> x.moveOf(plan, MIN));
        c.index("far out, above", () -> x.moveOf(plan, MAX));
        c.sentence(21, "Returns a move of a plan.");
        c.sentence(21, "Returns 0 to 5.");
        for (int at = 0; at < 6; at++) {
            c.due("move " + at, x.moveOf(plan, at), 5 - at);
        }
    }

    private void promise22() {
        Swervewright x = Calls.withVehicle(0, 0);
        c.sentence(22, "Throws `IndexOutOfBoundsException` if there is no such plan or pose");
        c.index("no such plan", () -> x.poseOf(0, 0));
        int still = Calls.drive(x, 0, 0, 0);
        c.index("behind the only one", () -> x.poseOf(still, 1));
        c.index("ahead of the only one", () -> x.poseOf(still, -1));
        int plan = Calls.drive(x, 13, 15, 6, 0, 2);
        c.sentence(22, "`plan`: its number");
        c.index("one less", () -> x.poseOf(-1, 0));
        c.due("the least", x.poseOf(0, 0), 0);
        c.due("the greatest", x.poseOf(1, 0), 6000 + 16 * 15 + 13);
        c.index("one more", () -> x.poseOf(2, 0));
        c.index("far out", () -> x.poseOf(MIN, 0));
        c.sentence(22, "`at`: 0 for the first one, 1 for that behind the first move, and so on");
        c.due("behind the first move", x.poseOf(plan, 1), 6000 + 16 * 14 + 13);
        c.due("behind the second move", x.poseOf(plan, 2), 7000 + 16 * 12 + 14);
        c.index("behind the last one", () -> x.poseOf(plan, 3));
        c.index("ahead of the first one", () -> x.poseOf(plan, -1));
        c.index("far out, below", () -> x.poseOf(plan, MIN));
        c.index("far out, above", () -> x.poseOf(plan, MAX));
        c.sentence(22, "Returns a pose of a plan.");
        c.sentence(22, "Returns 1000 times the heading, 16 times y, and x, together.");
        c.due("the least", x.poseOf(still, 0), 0);
        c.due("the greatest", x.poseOf(Calls.drive(x, 15, 15, 7), 0), 7255);
        c.due("x counts 1", x.poseOf(Calls.drive(x, 1, 0, 0), 0), 1);
        c.due("y counts 16", x.poseOf(Calls.drive(x, 0, 1, 0), 0), 16);
        c.due("the heading counts 1000", x.poseOf(Calls.drive(x, 0, 0, 1), 0), 1000);
    }

    private void promise23() {
        Swervewright x = new Swervewright();
        c.sentence(23, "Throws `IndexOutOfBoundsException` if there is no such plan, or it has not so many segments");
        c.index("no such plan", () -> x.segment(0, 0));
        int still = Calls.drive(x, 8, 8, 0);
        c.index("without moves", () -> x.segment(still, 0));
        c.index("without moves, one less", () -> x.segment(still, -1));
        int plan = Calls.drive(x, 5, 8, 0, 0, 0, 0, 1, 2, 2, 5, 3, 3, 3);
        c.index("one more than there are", () -> x.segment(plan, 5));
        c.sentence(23, "`plan`: its number");
        c.index("one less", () -> x.segment(-1, 0));
        c.due("the greatest", x.segment(1, 0), 3);
        c.index("one more", () -> x.segment(2, 0));
        c.index("far out", () -> x.segment(MAX, 0));
        c.sentence(23, "`at`: 0 for the first one");
        c.index("ahead of the first one", () -> x.segment(plan, -1));
        c.due("the first one", x.segment(plan, 0), 3);
        c.due("the last one", x.segment(plan, 4), 303);
        c.index("far out, below", () -> x.segment(plan, MIN));
        c.index("far out, above", () -> x.segment(plan, MAX));
        c.sentence(23, "Returns a segment of a plan.");
        c.sentence(23, "Returns 100 times its kind of move, and how many there are, together.");
        int[] want = {3, 101, 202, 501, 303};
        for (int at = 0; at < want.length; at++) {
            c.due("segment " + at, x.segment(plan, at), want[at]);
        }
        c.due("a back left one", x.segment(Calls.drive(x, 8, 8, 0, 4), 0), 401);
    }
}
