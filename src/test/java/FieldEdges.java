/** Promises 1 to 10, sentence by sentence. */
final class FieldEdges {
    private static final int MIN = Integer.MIN_VALUE;
    private static final int MAX = Integer.MAX_VALUE;

    private final Checks c;

    FieldEdges(Checks c) {
        this.c = c;
    }

    void all() {
        promise1();
        promise2();
        refusedCorners();
        promise3();
        refusedPolygons();
        promise4();
        promise5();
        refusedToTakeAway();
        promise6();
        promise7();
        promise8();
        promise9();
        promise10();
    }

    private void promise1() {
        c.sentence(1, "No polygons, no plans.");
        Swervewright x = new Swervewright();
        c.index("no polygon", () -> x.takeAway(0));
        c.index("no plan", () -> x.planOf(0, 0));
        c.due("no corners", x.forget(), 0);
        for (int cell = 0; cell < 16; cell++) {
            c.due("nothing is blocked", x.clearance(cell, 15 - cell), 16);
        }
        c.state("no drive", () -> x.keep());
        c.due("no word", x.found(0), Swervewright.NONE);
        Swervewright other = new Swervewright();
        Calls.wholeField(x);
        x.cusp(1);
        x.margin(1);
        x.vehicle(0, 0);
        c.due("another object has its own field", other.clearance(8, 8), 16);
        c.due("its own cusps", other.cusp(20), 20);
        c.due("its own margin", other.margin(0), 0);
        c.dueIs("its own vehicle", other.isFree(0, 0, 0), false);
    }

    private void promise2() {
        c.sentence(2, "Tells a corner of a polygon to be.");
        Swervewright x = new Swervewright();
        x.corner(3, 3);
        c.due("nothing is blocked by corners", x.clearance(3, 3), 16);
        x.corner(5, 3);
        x.corner(3, 5);
        x.polygon();
        c.due("they are the polygon's", x.clearance(3, 3), 0);
        c.sentence(2, "Returns how many there are.");
        for (int corner = 1; corner <= 6; corner++) {
            c.due("how many", x.corner(7, 7), corner);
        }
        x.forget();
        c.due("from one again", x.corner(7, 7), 1);
    }

    private void refusedCorners() {
        Swervewright x = new Swervewright();
        c.sentence(2, "`x`: 0 to 16");
        c.argument("one less", () -> x.corner(-1, 5));
        c.due("the least", x.corner(0, 5), 1);
        c.due("the greatest", x.corner(16, 5), 2);
        c.argument("one more", () -> x.corner(17, 5));
        c.sentence(2, "`y`: 0 to 16");
        c.argument("one less", () -> x.corner(5, -1));
        c.due("the least", x.corner(5, 0), 3);
        c.due("the greatest", x.corner(5, 16), 4);
        c.argument("one more", () -> x.corner(5, 17));
        c.sentence(2, "Throws `IllegalArgumentException` if x or y is out of range");
        c.argument("both", () -> x.corner(MIN, MAX));
        c.argument("x far out", () -> x.corner(MAX, 0));
        c.argument("y far out", () -> x.corner(0, MIN));
        c.due("none of these was told", x.corner(1, 1), 5);
        c.sentence(2, "Throws `IllegalStateException` if there are 6");
        c.due("the sixth", x.corner(2, 2), 6);
        c.state("a seventh", () -> x.corner(3, 3));
        c.argument("out of range is listed first", () -> x.corner(17, 3));
        c.due("it was not told", x.forget(), 6);
    }

    private void promise3() {
        c.sentence(3, "Makes a polygon of the corners that were told; there are none then.");
        Swervewright x = new Swervewright();
        Calls.polygon(x, 2, 2, 4, 2, 4, 4, 2, 4);
        c.dueText("its cells", Calls.picture(x, 1, 1, 4, 4), ".... .##. .##. ....");
        c.due("there are none then", x.forget(), 0);
        c.state("so there is no other one", () -> x.polygon());
        c.due("and the next one is the first", x.corner(1, 1), 1);
        c.sentence(3, "Returns its number.");
        Swervewright y = new Swervewright();
        for (int number = 0; number < 8; number++) {
            c.due("numbers", Calls.block(y, 2 * number, 0), number);
            if (number % 2 == 0) {
                y.takeAway(number);
            }
        }
    }

    private void refusedPolygons() {
        c.sentence(3, "Throws `IllegalStateException` if there are fewer than 3 corners, or there were 8 polygons");
        Swervewright x = new Swervewright();
        for (int corners = 0; corners < 3; corners++) {
            c.state(corners + " corners", () -> x.polygon());
            c.due("they are still told", x.corner(corners, corners * corners), corners + 1);
        }
        c.due("three corners", x.polygon(), 0);
        for (int number = 1; number < 8; number++) {
            c.due("eight polygons", Calls.block(x, number, 9), number);
        }
        x.takeAway(3);
        x.takeAway(7);
        c.state("there were eight", () -> Calls.block(x, 15, 15));
        c.due("nothing is blocked by it", x.clearance(15, 15), 9);
        c.due("its corners are still told", x.forget(), 4);
    }

    private void promise4() {
        c.sentence(4, "Forgets the corners that were told; returns how many.");
        for (int corners = 0; corners <= 6; corners++) {
            Swervewright x = new Swervewright();
            for (int corner = 0; corner < corners; corner++) {
                x.corner(corner, corner);
            }
            c.due("how many", x.forget(), corners);
            c.due("none then", x.forget(), 0);
            c.state("no polygon of them", () -> x.polygon());
            c.due("a polygon of others alone", x.takeAway(Calls.block(x, 5, 9)), 1);
        }
    }

    private void promise5() {
        c.sentence(5, "Takes a polygon away; its number is not given again.");
        Swervewright x = new Swervewright();
        Calls.block(x, 3, 3);
        Calls.block(x, 5, 5);
        x.takeAway(1);
        c.due("it blocks no more", x.clearance(5, 5), 2);
        c.due("the other one does", x.clearance(3, 3), 0);
        c.due("another number", Calls.block(x, 7, 7), 2);
        c.dueIs("a pose is free again", x.isFree(5, 5, 0), true);
        c.sentence(5, "Returns how many cells are not blocked any more by that.");
        Calls.polygon(x, 6, 6, 9, 6, 9, 9, 6, 9);
        c.due("none, if another one blocks all its cells", x.takeAway(2), 0);
        c.due("its nine cells", x.takeAway(3), 9);
        c.due("none, if it has no cells", x.takeAway(Calls.polygon(x, 6, 6, 9, 6, 6, 6)), 0);
        Calls.polygon(x, 0, 0, 4, 0, 4, 4, 0, 4);
        c.due("but for one that another one blocks", x.takeAway(5), 15);
        c.due("this one, too", x.takeAway(0), 1);
        c.due("the whole field", x.takeAway(Calls.wholeField(x)), 256);
    }

    private void refusedToTakeAway() {
        Swervewright x = new Swervewright();
        c.sentence(5, "Throws `IndexOutOfBoundsException` if there is no such polygon");
        c.index("there is none", () -> x.takeAway(0));
        c.sentence(5, "`polygon`: its number");
        for (int number = 0; number < 8; number++) {
            int next = number + 1;
            Calls.block(x, number, number);
            c.index("one more", () -> x.takeAway(next));
        }
        c.index("one less", () -> x.takeAway(-1));
        c.index("far out", () -> x.takeAway(MIN));
        c.index("far out, above", () -> x.takeAway(MAX));
        c.due("the least", x.takeAway(0), 1);
        c.due("the greatest", x.takeAway(7), 1);
        c.sentence(5, "Throws `IllegalStateException` if it was taken away");
        c.state("the first one again", () -> x.takeAway(0));
        c.state("the last one again", () -> x.takeAway(7));
        c.due("the others block", x.clearance(6, 6), 0);
        c.due("and can be taken away", x.takeAway(6), 1);
    }

    private void promise6() {
        c.sentence(6, "Tells the vehicle.");
        Swervewright x = new Swervewright();
        int plan = Calls.drive(x, 3, 8, 0, 0, 0);
        Calls.block(x, 7, 8);
        c.due("it can be driven with 1 in front", x.planOf(plan, 4), 1);
        x.vehicle(2, 1);
        c.due("not with 2", x.planOf(plan, 4), 0);
        x.vehicle(0, 0);
        c.dueIs("the cell alone", x.isFree(6, 8, 0), true);
        c.sentence(6, "`front`: 0 to 2");
        c.argument("one less", () -> x.vehicle(-1, 1));
        c.argument("one more", () -> x.vehicle(3, 1));
        c.dueIs("nothing changed", x.isFree(6, 8, 0) && x.isFree(0, 8, 0), true);
        boolean[] free = {true, true, true, false, false};
        for (int front = 0; front <= 2; front++) {
            x.vehicle(front, 0);
            for (int cx = 4; cx <= 6; cx++) {
                c.dueIs("front " + front + ", x " + cx, x.isFree(cx, 8, 0), free[cx - 4 + front]);
            }
        }
        c.sentence(6, "`behind`: 0 to 2");
        c.argument("one less", () -> x.vehicle(1, -1));
        c.argument("one more", () -> x.vehicle(1, 3));
        c.dueIs("nothing changed", x.isFree(8, 8, 0) && !x.isFree(5, 8, 0), true);
        for (int behind = 0; behind <= 2; behind++) {
            x.vehicle(0, behind);
            for (int cx = 8; cx <= 10; cx++) {
                c.dueIs("behind " + behind + ", x " + cx, x.isFree(cx, 8, 0), free[10 - cx + behind]);
            }
        }
        c.sentence(6, "Throws `IllegalArgumentException` if front or behind is out of range");
        c.argument("both", () -> x.vehicle(3, 3));
        c.argument("both, below", () -> x.vehicle(-1, -1));
        c.argument("far out", () -> x.vehicle(MAX, MIN));
        c.dueIs("nothing changed", x.isFree(0, 8, 4) && !x.isFree(14, 8, 4), true);
    }

    private void promise7() {
        Swervewright x = new Swervewright();
        int plan = Calls.drive(x, 8, 8, 0, 0, 3);
        c.sentence(7, "Tells what a cusp costs.");
        c.due("20 at first", Calls.costOf(x, plan), 40);
        x.cusp(35);
        c.due("as told", Calls.costOf(x, plan), 55);
        c.sentence(7, "Returns what it was.");
        c.due("what was told", x.cusp(35), 35);
        c.sentence(7, "`cost`: 0 to 100");
        c.argument("one less", () -> x.cusp(-1));
        c.argument("one more", () -> x.cusp(101));
        c.due("the least", x.cusp(0), 35);
        c.due("a cusp for nothing", Calls.costOf(x, plan), 20);
        c.due("the greatest", x.cusp(100), 0);
        c.due("a dear cusp", Calls.costOf(x, plan), 120);
        c.sentence(7, "Throws `IllegalArgumentException` if cost is out of range");
        c.argument("far out", () -> x.cusp(MAX));
        c.argument("far out, below", () -> x.cusp(MIN));
        c.due("nothing changed", x.cusp(20), 100);
    }

    private void promise8() {
        Swervewright x = new Swervewright();
        Calls.block(x, 10, 12);
        int plan = Calls.drive(x, 8, 8, 0, 0);
        c.sentence(8, "Tells the margin.");
        c.due("0 at first", Calls.costOf(x, plan), 10);
        x.margin(5);
        c.due("as told", Calls.costOf(x, plan), 15);
        c.sentence(8, "Returns what it was.");
        c.due("what was told", x.margin(4), 5);
        c.due("what was told then", x.margin(4), 4);
        c.sentence(8, "`cells`: 0 to 5");
        c.argument("one less", () -> x.margin(-1));
        c.argument("one more", () -> x.margin(6));
        c.due("the least", x.margin(0), 4);
        c.due("no margin", Calls.costOf(x, plan), 10);
        c.due("the greatest", x.margin(5), 0);
        c.due("the widest", Calls.costOf(x, plan), 15);
        c.sentence(8, "Throws `IllegalArgumentException` if cells is out of range");
        c.argument("far out", () -> x.margin(MAX));
        c.argument("far out, below", () -> x.margin(MIN));
        c.due("nothing changed", x.margin(0), 5);
    }

    private void promise9() {
        c.sentence(9, "Returns the clearance of a cell; 0 if it is blocked.");
        Swervewright x = new Swervewright();
        c.due("none is blocked", x.clearance(5, 5), 16);
        Calls.block(x, 5, 5);
        c.due("it is blocked", x.clearance(5, 5), 0);
        c.due("beside it", x.clearance(6, 4), 1);
        c.sentence(9, "`x`: 0 to 15");
        c.index("one less", () -> x.clearance(-1, 5));
        c.due("the least", x.clearance(0, 5), 5);
        c.due("the greatest", x.clearance(15, 5), 10);
        c.index("one more", () -> x.clearance(16, 5));
        c.sentence(9, "`y`: 0 to 15");
        c.index("one less", () -> x.clearance(5, -1));
        c.due("the least", x.clearance(5, 0), 5);
        c.due("the greatest", x.clearance(5, 15), 10);
        c.index("one more", () -> x.clearance(5, 16));
        c.sentence(9, "Throws `IndexOutOfBoundsException` if there is no such cell");
        c.index("far out", () -> x.clearance(MIN, 5));
        c.index("far out, above", () -> x.clearance(5, MAX));
        c.index("both", () -> x.clearance(16, 16));
    }

    private void promise10() {
        c.sentence(10, "Tells whether a pose is free.");
        Swervewright x = new Swervewright();
        Calls.block(x, 8, 8);
        c.dueIs("free", x.isFree(6, 8, 0), true);
        c.dueIs("blocked in front", x.isFree(7, 8, 0), false);
        c.dueIs("blocked", x.isFree(8, 8, 0), false);
        c.sentence(10, "`x`: 0 to 15");
        c.index("one less", () -> x.isFree(-1, 5, 2));
        c.dueIs("the least", x.isFree(0, 5, 2), true);
        c.dueIs("the greatest", x.isFree(15, 5, 2), true);
        c.index("one more", () -> x.isFree(16, 5, 2));
        c.sentence(10, "`y`: 0 to 15");
        c.index("one less", () -> x.isFree(5, -1, 0));
        c.dueIs("the least", x.isFree(5, 0, 0), true);
        c.dueIs("the greatest", x.isFree(5, 15, 0), true);
        c.index("one more", () -> x.isFree(5, 16, 0));
        c.sentence(10, "`heading`: 0 to 7");
        c.index("one less", () -> x.isFree(5, 5, -1));
        c.dueIs("the least", x.isFree(5, 5, 0), true);
        c.dueIs("the greatest", x.isFree(5, 5, 7), true);
        c.index("one more", () -> x.isFree(5, 5, 8));
        c.sentence(10, "Throws `IndexOutOfBoundsException` if there is no such cell or heading");
        c.index("far out", () -> x.isFree(MAX, 5, 0));
        c.index("far out, y", () -> x.isFree(5, MIN, 0));
        c.index("far out, heading", () -> x.isFree(5, 5, MAX));
        c.index("far out, heading below", () -> x.isFree(5, 5, MIN));
    }
}
