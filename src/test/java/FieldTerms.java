/** What the document says under "Terms" of the field, polygons, the vehicle and clearances. */
final class FieldTerms {
    private static final int[] DX = {1, 1, 0, -1, -1, -1, 0, 1};
    private static final int[] DY = {0, 1, 1, 1, 0, -1, -1, -1};

    private final Checks c;

    FieldTerms(Checks c) {
        this.c = c;
    }

    void all() {
        cells();
        headings();
        stepsOfHeadings();
        poses();
        polygonNumbers();
        cornerCounts();
        cornerPoints();
        cornerOrder();
        lastCorner();
        middles();
        oddCrossings();
        sidesThroughMiddles();
        levelSides();
        greaterXAlone();
        takenAway();
        coveredCells();
        vehicleAtFirst();
        edgesOfTheField();
        blockedOrOffTheField();
        clearances();
    }

    private void cells() {
        c.sentence("Terms", "The field has 16 times 16 cells, x and y 0 to 15.");
        Swervewright x = new Swervewright();
        int[] ends = {0, 15};
        for (int cx : ends) {
            for (int cy : ends) {
                c.due("cell " + cx + ", " + cy, x.clearance(cx, cy), 16);
            }
        }
        c.index("x one less", () -> x.clearance(-1, 0));
        c.index("x one more", () -> x.clearance(16, 15));
        c.index("y one less", () -> x.clearance(0, -1));
        c.index("y one more", () -> x.clearance(15, 16));
        c.due("cells of the whole field", x.takeAway(Calls.wholeField(x)), 256);
    }

    private void headings() {
        c.sentence("Terms", "There are the headings 0 to 7, by eighths of a turn");
        Swervewright x = new Swervewright();
        for (int heading = 0; heading < 8; heading++) {
            c.dueIs("heading " + heading, x.isFree(8, 8, heading), true);
        }
        c.index("one less", () -> x.isFree(8, 8, -1));
        c.index("one more", () -> x.isFree(8, 8, 8));
        int plan = Calls.drive(x, 8, 11, 0, 1, 1, 1, 1, 1, 1, 1, 1);
        c.due("eight of eight are a whole turn", x.poseOf(plan, 8), Calls.pose(8, 11, 0));
        for (int at = 1; at < 8; at++) {
            c.due("after " + at, x.poseOf(plan, at) / 1000, 8 - at);
        }
    }

    private void stepsOfHeadings() {
        c.sentence("Terms", "a step in the heading 0 is to the greater x, in 2 to the greater y, in 4 to the lesser "
                + "x, in 6 to the lesser y; in 1, 3, 5 and 7 it is both of its neighbours' together (1: to the "
                + "greater x and y)");
        Swervewright x = new Swervewright();
        int[][] ends = {{9, 8}, {9, 9}, {8, 9}, {7, 9}, {7, 8}, {7, 7}, {8, 7}, {9, 7}};
        for (int heading = 0; heading < 8; heading++) {
            int plan = Calls.drive(x, 8, 8, heading, Swervewright.STRAIGHT);
            c.due("heading " + heading, x.poseOf(plan, 1), Calls.pose(ends[heading][0], ends[heading][1], heading));
        }
    }

    private void poses() {
        c.sentence("Terms", "A pose is a cell and a heading.");
        Swervewright x = new Swervewright();
        c.dueIs("free with one heading", x.isFree(0, 8, 2), true);
        c.dueIs("not with another one", x.isFree(0, 8, 0), false);
        c.dueIs("nor in another cell", x.isFree(0, 0, 2), false);
        c.due("another heading is another pose", x.cheapest(0, 8, 0, 0, 8, 2, true), Swervewright.NONE);
        c.due("the same pose", x.cheapest(0, 8, 0, 0, 8, 0, true), 0);
    }

    private void polygonNumbers() {
        c.sentence("Terms", "Polygons are numbered from 0, at most 8");
        Swervewright x = new Swervewright();
        for (int number = 0; number < 8; number++) {
            c.due("number", Calls.block(x, number, number), number);
        }
        c.state("a ninth", () -> Calls.block(x, 15, 15));
        c.due("it blocks nothing", x.clearance(15, 15), 8);
        for (int number = 0; number < 8; number++) {
            c.due("each of them blocks its cell", x.takeAway(number), 1);
        }
        c.state("a ninth when all are away", () -> x.polygon());
    }

    private void cornerCounts() {
        c.sentence("Terms", "with 3 to 6 corners");
        Swervewright x = new Swervewright();
        c.state("none", () -> x.polygon());
        x.corner(0, 0);
        c.state("one", () -> x.polygon());
        x.corner(4, 0);
        c.state("two", () -> x.polygon());
        x.corner(4, 4);
        c.due("three", x.polygon(), 0);
        c.due("four", Calls.polygon(x, 0, 0, 4, 0, 4, 4, 0, 4), 1);
        c.due("five", Calls.polygon(x, 0, 0, 4, 0, 4, 4, 2, 4, 0, 2), 2);
        x.takeAway(0);
        x.takeAway(1);
        x.takeAway(2);
        // the L of six corners has 4 times 2 cells, and 2 times 2
        int[] corners = {8, 8, 12, 8, 12, 10, 10, 10, 10, 12, 8, 12};
        for (int at = 0; at < corners.length; at += 2) {
            c.due("corners", x.corner(corners[at], corners[at + 1]), at / 2 + 1);
        }
        c.state("a seventh", () -> x.corner(8, 10));
        c.due("six", x.polygon(), 3);
        c.dueText("an L", Calls.picture(x, 7, 7, 6, 6), "...... .####. .####. .##... .##... ......");
    }

    private void cornerPoints() {
        c.sentence("Terms", "at points with x and y 0 to 16");
        Swervewright x = new Swervewright();
        Calls.polygon(x, 0, 0, 1, 0, 1, 1, 0, 1);
        Calls.polygon(x, 15, 15, 16, 15, 16, 16, 15, 16);
        Calls.polygon(x, 15, 0, 16, 0, 16, 1, 15, 1);
        Calls.polygon(x, 0, 15, 1, 15, 1, 16, 0, 16);
        for (int cell = 0; cell < 16; cell++) {
            boolean isEnd = cell == 0 || cell == 15;
            c.dueIs("the first column", x.clearance(0, cell) == 0, isEnd);
            c.dueIs("the last column", x.clearance(15, cell) == 0, isEnd);
        }
        c.argument("x one less", () -> x.corner(-1, 0));
        c.argument("x one more", () -> x.corner(17, 16));
        c.argument("y one less", () -> x.corner(0, -1));
        c.argument("y one more", () -> x.corner(16, 17));
        c.due("none of these was told", x.forget(), 0);
    }

    /** The sides go along x = y, x = 6, x + y = 8 and x = 2; what lies right of one or three of them is blocked. */
    private void cornerOrder() {
        c.sentence("Terms", "told one by one");
        Swervewright x = new Swervewright();
        Calls.polygon(x, 2, 2, 6, 2, 6, 6, 2, 6);
        c.dueText("in turn", Calls.picture(x, 1, 2, 6, 4), ".####. .####. .####. .####.");
        x.takeAway(0);
        Calls.polygon(x, 2, 2, 6, 6, 6, 2, 2, 6);
        c.dueText("across", Calls.picture(x, 1, 2, 6, 4), "....#. .#.##. .#.##. ....#.");
        c.due("cells across", x.takeAway(1), 8);
    }

    private void lastCorner() {
        c.sentence("Terms", "the last one is joined with the first one");
        Swervewright x = new Swervewright();
        Calls.polygon(x, 2, 2, 6, 2, 6, 6);
        c.dueText("a triangle", Calls.picture(x, 0, 2, 8, 4), "..####.. ...###.. ....##.. .....#..");
        c.due("its cells", x.takeAway(0), 10);
    }

    /** At the height of a half, the long side is at x = 1 in the first triangle, and at a half in the other two. */
    private void middles() {
        c.sentence("Terms", "The middle of the cell x, y is at x and a half, y and a half.");
        Swervewright x = new Swervewright();
        Calls.polygon(x, 0, 0, 2, 0, 0, 1);
        c.dueText("a side behind the middle", Calls.picture(x, 0, 0, 3, 2), "#.. ...");
        x.takeAway(0);
        Calls.polygon(x, 0, 0, 1, 0, 0, 1);
        c.due("no side behind the middle", x.takeAway(1), 0);
        Calls.polygon(x, 1, 0, 1, 1, 0, 1);
        c.due("the other half", x.takeAway(2), 1);
    }

    private void oddCrossings() {
        c.sentence("Terms", "A polygon blocks a cell, if from its middle straight on to the greater x an odd number "
                + "of its sides are crossed");
        Swervewright x = new Swervewright();
        c.due("twice round the same triangle", x.takeAway(Calls.polygon(x, 2, 2, 8, 2, 8, 8, 2, 2, 8, 2, 8, 8)), 0);
        // x + y below 11 lies in the large triangle, x + y below 5 in the small one as well
        Calls.polygon(x, 0, 0, 12, 0, 0, 12, 0, 0, 6, 0, 0, 6);
        for (int cx = 0; cx < 12; cx++) {
            for (int cy = 0; cy < 12; cy++) {
                boolean isOdd = cx + cy >= 5 && cx + cy < 11;
                c.dueIs("a triangle in a triangle, cell " + cx + ", " + cy, x.clearance(cx, cy) == 0, isOdd);
            }
        }
        c.due("its cells", x.takeAway(1), 51);
        // the middle of a star of five corners has two sides on either hand, its upper tip one
        Calls.polygon(x, 8, 1, 13, 15, 1, 6, 15, 6, 3, 15);
        c.dueIs("a star's middle", x.clearance(8, 8) == 0, false);
        c.dueIs("a star's tip", x.clearance(7, 3) == 0, true);
    }

    /** The long sides go through the middles of the cells with x = y, which lie left of none of them. */
    private void sidesThroughMiddles() {
        c.sentence("Terms", "and that have at this y an x that is greater than that of the middle.");
        Swervewright upper = new Swervewright();
        Calls.polygon(upper, 0, 0, 16, 16, 0, 16);
        Swervewright lower = new Swervewright();
        Calls.polygon(lower, 0, 0, 16, 0, 16, 16);
        for (int cx = 0; cx < 16; cx++) {
            for (int cy = 0; cy < 16; cy++) {
                String cell = "cell " + cx + ", " + cy;
                c.dueIs("left of the line, " + cell, upper.clearance(cx, cy) == 0, cx < cy);
                c.dueIs("right of the line, " + cell, lower.clearance(cx, cy) == 0, cx >= cy);
            }
        }
        c.due("cells left of it", upper.takeAway(0), 120);
        c.due("cells right of it", lower.takeAway(0), 136);
        // at the heights of the middles this line is at 1.5, 4.5 and 7.5, where there are middles
        Swervewright flat = new Swervewright();
        Calls.polygon(flat, 0, 0, 9, 3, 0, 3);
        c.dueText("a flat line through middles", Calls.picture(flat, 0, 0, 10, 3), "#......... ####...... #######...");
    }

    private void levelSides() {
        c.sentence("Terms", "sides of which one end has a y less than that of the middle, and the other one a "
                + "greater one");
        Swervewright x = new Swervewright();
        c.due("no side but level ones", x.takeAway(Calls.polygon(x, 0, 5, 16, 5, 3, 5, 9, 5)), 0);
        c.due("one row", x.takeAway(Calls.polygon(x, 0, 5, 16, 5, 16, 6, 0, 6)), 16);
        c.due("one column", x.takeAway(Calls.polygon(x, 5, 0, 6, 0, 6, 16, 5, 16)), 16);
        c.due("sides that go there and back", x.takeAway(Calls.polygon(x, 3, 3, 9, 12, 3, 3, 9, 12)), 0);
        // the fifth corner lies between the fourth one and the first one
        c.due("a corner within a side", x.takeAway(Calls.polygon(x, 2, 2, 6, 2, 6, 6, 2, 6, 2, 4)), 16);
    }

    private void greaterXAlone() {
        c.sentence("Terms", "straight on to the greater x");
        Swervewright x = new Swervewright();
        Calls.polygon(x, 8, 0, 16, 0, 16, 16, 8, 16);
        for (int cx = 0; cx < 16; cx++) {
            c.dueIs("x " + cx, x.clearance(cx, 8) == 0, cx >= 8);
        }
    }

    private void takenAway() {
        c.sentence("Terms", "Polygons can be taken away.");
        Swervewright x = new Swervewright();
        Calls.polygon(x, 4, 4, 6, 4, 6, 6, 4, 6);
        Calls.polygon(x, 4, 4, 6, 4, 6, 6, 4, 6);
        Calls.polygon(x, 5, 5, 9, 5, 9, 9, 5, 9);
        c.due("a cell of all three is blocked", x.clearance(5, 5), 0);
        c.due("the first of two that are alike", x.takeAway(0), 0);
        c.due("the cell of the others", x.clearance(5, 5), 0);
        c.due("the second one, but for a cell of the third", x.takeAway(1), 3);
        c.due("the cell of the last one", x.clearance(5, 5), 0);
        c.due("beside it", x.clearance(4, 5), 1);
        c.due("the last one", x.takeAway(2), 16);
        c.due("nothing is blocked", x.clearance(5, 5), 16);
        Calls.block(x, 5, 5);
        c.due("and it is again", x.clearance(5, 5), 0);
    }

    private void coveredCells() {
        c.sentence("Terms", "The vehicle covers the cell of its pose, and so many cells in front, 0 to 2, and "
                + "behind, 0 to 2");
        c.sentence("Terms", "all those to which one step, or more up to so many, lead in its heading, and against it.");
        for (int front = 0; front <= 2; front++) {
            for (int behind = 0; behind <= 2; behind++) {
                Swervewright x = Calls.withVehicle(front, behind);
                Calls.block(x, 8, 8);
                for (int heading = 0; heading < 8; heading++) {
                    for (int ahead = -3; ahead <= 3; ahead++) {
                        boolean isFree = x.isFree(8 - ahead * DX[heading], 8 - ahead * DY[heading], heading);
                        String what = "front " + front + ", behind " + behind + ", heading " + heading;
                        c.dueIs(what + ", blocked " + ahead + " ahead", isFree, ahead < -behind || ahead > front);
                    }
                }
            }
        }
    }

    private void vehicleAtFirst() {
        c.sentence("Terms", "1 both at first");
        Swervewright x = new Swervewright();
        Calls.block(x, 8, 8);
        boolean[] free = {true, false, false, false, true};
        for (int cx = 6; cx <= 10; cx++) {
            c.dueIs("x " + cx, x.isFree(cx, 8, 0), free[cx - 6]);
        }
    }

    /** In each heading the vehicle stands 0 to 2 steps from where the field ends, once ahead and once behind. */
    private void edgesOfTheField() {
        c.sentence("Terms", "A pose is free, if all these cells are on the field");
        for (int front = 0; front <= 2; front++) {
            for (int behind = 0; behind <= 2; behind++) {
                Swervewright x = Calls.withVehicle(front, behind);
                for (int heading = 0; heading < 8; heading++) {
                    int opposite = (heading + 4) % 8;
                    for (int steps = 0; steps <= 2; steps++) {
                        String what = "front " + front + ", behind " + behind + ", heading " + heading + ", edge " + steps;
                        c.dueIs(what + " ahead", isFreeAtEdge(x, heading, heading, steps), steps >= front);
                        c.dueIs(what + " behind", isFreeAtEdge(x, opposite, heading, steps), steps >= behind);
                    }
                }
            }
        }
    }

    /** The pose lies so many steps from the end of the field on one side; in the middle, where that side has no say. */
    private static boolean isFreeAtEdge(Swervewright x, int side, int heading, int steps) {
        return x.isFree(nearEnd(DX[side], steps), nearEnd(DY[side], steps), heading);
    }

    private static int nearEnd(int direction, int steps) {
        if (direction == 0) {
            return 8;
        }
        return direction > 0 ? 15 - steps : steps;
    }

    private void blockedOrOffTheField() {
        c.sentence("Terms", "and none is blocked.");
        Swervewright x = Calls.withVehicle(0, 0);
        Calls.block(x, 8, 8);
        for (int heading = 0; heading < 8; heading++) {
            c.dueIs("its own cell is blocked", x.isFree(8, 8, heading), false);
            c.dueIs("the corner of the field is not", x.isFree(15, 15, heading), true);
        }
        x.vehicle(2, 2);
        c.dueIs("the farther of two cells in front", x.isFree(6, 8, 0), false);
        c.dueIs("the nearer one", x.isFree(7, 8, 0), false);
        c.dueIs("beside all of them", x.isFree(6, 7, 0), true);
        x.takeAway(0);
        c.dueIs("it is free then", x.isFree(7, 8, 0), true);
    }

    private void clearances() {
        c.sentence("Terms", "The clearance of a cell is the least distance from a cell that is blocked, by the "
                + "greater one of the differences of both x and both y; 16 if none is blocked.");
        Swervewright x = new Swervewright();
        c.due("none is blocked", x.clearance(0, 0), 16);
        Calls.block(x, 0, 0);
        for (int cell = 0; cell < 16; cell++) {
            c.due("in the row", x.clearance(cell, 0), cell);
            c.due("in the column", x.clearance(0, cell), cell);
            c.due("across", x.clearance(cell, cell), cell);
            c.due("in the last row", x.clearance(cell, 15), 15);
            c.due("in the last column", x.clearance(15, cell), 15);
        }
        c.due("the difference of x is greater", x.clearance(9, 4), 9);
        c.due("the difference of y is greater", x.clearance(4, 9), 9);
        Calls.block(x, 15, 9);
        c.due("the least one, of the second", x.clearance(9, 4), 6);
        c.due("the least one, of the first", x.clearance(7, 3), 7);
        c.due("as far from both", x.clearance(6, 9), 9);
        Calls.wholeField(x);
        c.due("all are blocked", x.clearance(7, 3), 0);
        x.takeAway(2);
        x.takeAway(0);
        x.takeAway(1);
        c.due("none is blocked again", x.clearance(15, 9), 16);
        distances(6, 9);
    }

    private void distances(int blockedX, int blockedY) {
        Swervewright x = new Swervewright();
        Calls.block(x, blockedX, blockedY);
        for (int cell = 0; cell < 256; cell++) {
            int byX = Math.abs(cell % 16 - blockedX);
            int byY = Math.abs(cell / 16 - blockedY);
            c.due("cell " + cell % 16 + ", " + cell / 16, x.clearance(cell % 16, cell / 16), byX > byY ? byX : byY);
        }
    }
}
