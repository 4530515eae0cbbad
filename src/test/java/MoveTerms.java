/** What the document says under "Terms" of moves, their poses and their costs, margins and cusps. */
final class MoveTerms {
    private static final String DRIVEN = "A move can be driven, if all poses in it are free: that at its beginning, "
            + "and its end; for arcs also those at the cell between, with either heading.";
    /** Where the moves 0 to 5 lead from (8, 8), by headings: x, y, and the heading then. */
    private static final int[][][] ENDS = {
        {{9, 8, 0}, {10, 7, 7}, {10, 9, 1}, {7, 8, 0}, {6, 7, 1}, {6, 9, 7}},
        {{9, 9, 1}, {10, 9, 0}, {9, 10, 2}, {7, 7, 1}, {7, 6, 2}, {6, 7, 0}},
        {{8, 9, 2}, {9, 10, 1}, {7, 10, 3}, {8, 7, 2}, {9, 6, 3}, {7, 6, 1}},
        {{7, 9, 3}, {7, 10, 2}, {6, 9, 4}, {9, 7, 3}, {10, 7, 4}, {9, 6, 2}},
        {{7, 8, 4}, {6, 9, 3}, {6, 7, 5}, {9, 8, 4}, {10, 9, 5}, {10, 7, 3}},
        {{7, 7, 5}, {6, 7, 4}, {7, 6, 6}, {9, 9, 5}, {9, 10, 6}, {10, 9, 4}},
        {{8, 7, 6}, {7, 6, 5}, {9, 6, 7}, {8, 9, 6}, {7, 10, 7}, {9, 10, 5}},
        {{9, 7, 7}, {9, 6, 6}, {10, 7, 0}, {7, 9, 7}, {6, 9, 0}, {7, 10, 6}}};

    private final Checks c;

    MoveTerms(Checks c) {
        this.c = c;
    }

    void all() {
        constants();
        ends();
        wrapAround();
        reverse();
        offTheField();
        ownPosesAtTheEdge();
        beginning();
        end();
        cellBetween();
        besideAMove();
        stepCosts();
        margins();
        marginsAtEnds();
        cusps();
    }

    private void constants() {
        c.sentence("Terms", "`STRAIGHT = 0, LEFT = 1, RIGHT = 2, BACK = 3, BACK_LEFT = 4, BACK_RIGHT = 5`: Moves.");
        int[] moves = {Swervewright.STRAIGHT, Swervewright.LEFT, Swervewright.RIGHT, Swervewright.BACK,
            Swervewright.BACK_LEFT, Swervewright.BACK_RIGHT};
        for (int move = 0; move < 6; move++) {
            c.due("the constants", moves[move], move);
        }
        c.sentence("Terms", "The constants: `NONE = -1`: There is none.");
        c.due("NONE", Swervewright.NONE, -1);
    }

    private void ends() {
        c.sentence("Terms", "The moves are 0 straight: a step in the heading; 1 left: a step in the heading, then "
                + "the heading is one less (7 behind 0), then a step in that; 2 right: likewise, one more (0 behind "
                + "7); 3, 4, 5: the same in reverse");
        for (int heading = 0; heading < 8; heading++) {
            Swervewright x = new Swervewright();
            for (int move = 0; move < 6; move++) {
                int plan = Calls.drive(x, 8, 8, heading, move);
                int[] end = ENDS[heading][move];
                String what = "heading " + heading + ", move " + move;
                c.due(what, x.poseOf(plan, 1), Calls.pose(end[0], end[1], end[2]));
            }
        }
    }

    private void wrapAround() {
        c.sentence("Terms", "then the heading is one less (7 behind 0)");
        Swervewright x = new Swervewright();
        c.due("left in 0", x.poseOf(Calls.drive(x, 8, 8, 0, 1), 1) / 1000, 7);
        c.due("right in reverse in 0", x.poseOf(Calls.drive(x, 8, 8, 0, 5), 1) / 1000, 7);
        c.sentence("Terms", "one more (0 behind 7)");
        c.due("right in 7", x.poseOf(Calls.drive(x, 8, 8, 7, 2), 1) / 1000, 0);
        c.due("left in reverse in 7", x.poseOf(Calls.drive(x, 8, 8, 7, 4), 1) / 1000, 0);
    }

    private void reverse() {
        c.sentence("Terms", "3, 4 or 5 leads from a pose to the one from which 0, 1 or 2 leads to this.");
        for (int heading = 0; heading < 8; heading++) {
            Swervewright x = new Swervewright();
            for (int move = 0; move < 3; move++) {
                String what = "heading " + heading + ", move " + move;
                int there = Calls.drive(x, 8, 8, heading, move, move + 3);
                c.due(what + " and back", x.poseOf(there, 2), Calls.pose(8, 8, heading));
                int back = Calls.drive(x, 8, 8, heading, move + 3, move);
                c.due(what + " after it in reverse", x.poseOf(back, 2), Calls.pose(8, 8, heading));
            }
        }
    }

    /** A vehicle of one cell, so that nothing but the cells of the poses lies off the field. */
    private void offTheField() {
        c.sentence("Terms", DRIVEN);
        int[][] corners = {{15, 8}, {15, 15}, {8, 15}, {0, 15}, {0, 8}, {0, 0}, {8, 0}, {15, 0}};
        for (int heading = 0; heading < 8; heading++) {
            Swervewright x = Calls.withVehicle(0, 0);
            int[] edge = corners[heading];
            int[] other = corners[(heading + 4) % 8];
            for (int move = 0; move < 3; move++) {
                String what = "heading " + heading + ", move " + move;
                refused(what + " from the edge", x, edge, heading, move);
                refused(what + " in reverse from the other edge", x, other, heading, move + 3);
            }
        }
        Swervewright x = Calls.withVehicle(0, 0);
        refused("an arc whose end alone is off the field", x, new int[] {8, 0}, 0, 1);
        refused("to the right", x, new int[] {8, 15}, 0, 2);
        refused("in reverse", x, new int[] {8, 0}, 0, 4);
        refused("in reverse, to the right", x, new int[] {8, 15}, 0, 5);
        allowed("to the other side", x, new int[] {8, 0}, 0, 2);
        allowed("in reverse, to the other side", x, new int[] {8, 0}, 0, 5);
        allowed("straight on to the last cell", x, new int[] {14, 0}, 0, 0);
        allowed("an arc to the last cell", x, new int[] {13, 1}, 0, 1);
    }

    /** Cells in front or behind are off the field at one of the poses of an arc alone. */
    private void ownPosesAtTheEdge() {
        c.sentence("Terms", DRIVEN);
        Swervewright x = Calls.withVehicle(1, 0);
        refused("at the cell between, with the first heading", x, new int[] {5, 14}, 1, 1);
        refused("the same in reverse", x, new int[] {7, 15}, 0, 4);
        allowed("one cell away from the edge", x, new int[] {5, 13}, 1, 1);
        allowed("one cell away in reverse", x, new int[] {7, 14}, 0, 4);
        refused("at its end", x, new int[] {13, 8}, 7, 2);
        allowed("at its end it fits", x, new int[] {12, 8}, 7, 2);
        x.vehicle(0, 1);
        refused("at the cell between, with the second heading", x, new int[] {5, 0}, 0, 2);
        refused("the same in reverse, behind", x, new int[] {7, 1}, 1, 5);
        allowed("one cell away from that edge", x, new int[] {5, 1}, 0, 2);
        allowed("one cell away from it in reverse", x, new int[] {7, 2}, 1, 5);
        refused("at the end of a straight one in reverse", x, new int[] {1, 8}, 0, 3);
        allowed("there it fits", x, new int[] {2, 8}, 0, 3);
    }

    private void beginning() {
        c.sentence("Terms", "that at its beginning");
        Swervewright x = Calls.withVehicle(0, 0);
        x.begin(8, 8, 0);
        Calls.block(x, 8, 8);
        for (int move = 0; move < 6; move++) {
            int tried = move;
            c.state("move " + move + " from a cell that is blocked now", () -> x.drive(tried));
        }
        x.takeAway(0);
        c.due("from there again", x.drive(0), 1);
        x.vehicle(0, 2);
        Calls.block(x, 7, 8);
        c.state("what is behind the beginning", () -> x.drive(0));
        x.vehicle(0, 1);
        c.due("it is farther than the vehicle", x.drive(2), 2);
    }

    private void end() {
        c.sentence("Terms", "and its end; for arcs also");
        for (int heading = 0; heading < 8; heading++) {
            for (int move = 0; move < 6; move++) {
                Swervewright x = Calls.withVehicle(0, 0);
                int[] end = ENDS[heading][move];
                Calls.block(x, end[0], end[1]);
                refused("heading " + heading + ", move " + move, x, new int[] {8, 8}, heading, move);
            }
        }
    }

    /** The cell between is one step ahead, or behind in reverse; a vehicle with a front or a behind turns there. */
    private void cellBetween() {
        c.sentence("Terms", "for arcs also those at the cell between, with either heading.");
        for (int heading = 0; heading < 8; heading++) {
            for (int move = 0; move < 6; move++) {
                if (move % 3 != 0) {
                    Swervewright x = Calls.withVehicle(0, 0);
                    int[] between = ENDS[heading][move / 3 * 3];
                    Calls.block(x, between[0], between[1]);
                    refused("heading " + heading + ", move " + move, x, new int[] {8, 8}, heading, move);
                }
            }
        }
        blocked("in front there, with the first heading", 1, 0, 10, 8, 1);
        blocked("behind there, with the second heading", 0, 1, 8, 9, 1);
        blocked("behind there in reverse, with the first heading", 0, 1, 6, 8, 4);
        blocked("in front there in reverse, with the second heading", 1, 0, 8, 9, 4);
        blocked("two in front there, with the first heading", 2, 0, 11, 8, 2);
        blocked("two behind there, with the second heading", 0, 2, 7, 6, 2);
    }

    private void besideAMove() {
        c.sentence("Terms", DRIVEN);
        Swervewright x = Calls.withVehicle(0, 0);
        Calls.block(x, 9, 7);
        allowed("a left one beside its bend", x, new int[] {8, 8}, 0, 1);
        Calls.block(x, 10, 8);
        allowed("between two blocked cells", x, new int[] {8, 8}, 0, 1);
        allowed("a straight one beside one", x, new int[] {8, 8}, 0, 0);
        Calls.block(x, 7, 8);
        allowed("with one behind its beginning", x, new int[] {8, 8}, 0, 1);
        refused("straight back into that", x, new int[] {8, 8}, 0, 3);
    }

    private void refused(String what, Swervewright x, int[] cell, int heading, int move) {
        x.begin(cell[0], cell[1], heading);
        c.state(what, () -> x.drive(move));
    }

    private void allowed(String what, Swervewright x, int[] cell, int heading, int move) {
        x.begin(cell[0], cell[1], heading);
        c.due(what, x.drive(move), 1);
    }

    private void blocked(String what, int front, int behind, int cellX, int cellY, int move) {
        Swervewright x = Calls.withVehicle(front, behind);
        Calls.block(x, cellX, cellY);
        refused(what, x, new int[] {8, 8}, 0, move);
    }

    private void stepCosts() {
        c.sentence("Terms", "A move costs 10 for each step in an even heading, and 14 for each in an odd one");
        for (int heading = 0; heading < 8; heading++) {
            Swervewright x = new Swervewright();
            for (int move = 0; move < 6; move++) {
                int straight = heading % 2 == 0 ? 10 : 14;
                int plan = Calls.drive(x, 8, 8, heading, move);
                c.due("heading " + heading + ", move " + move, Calls.costOf(x, plan), move % 3 == 0 ? straight : 24);
            }
        }
    }

    /** The plans end 0 to 6 cells from the one that is blocked; at 0 the plan cannot be driven, but has its costs. */
    private void margins() {
        c.sentence("Terms", "moreover, if the clearance of the cell at its end is below the margin, 0 to 5, 0 at "
                + "first, 5 for each by which it is less.");
        Swervewright x = Calls.withVehicle(0, 0);
        for (int clear = 0; clear <= 6; clear++) {
            Calls.drive(x, 13 - clear, 8, 0, 0);
        }
        Calls.block(x, 14, 8);
        for (int clear = 0; clear <= 6; clear++) {
            c.due("0 at first, clearance " + clear, Calls.costOf(x, clear), 10);
        }
        for (int margin = 0; margin <= 5; margin++) {
            x.margin(margin);
            for (int clear = 0; clear <= 6; clear++) {
                int less = margin > clear ? margin - clear : 0;
                c.due("margin " + margin + ", clearance " + clear, Calls.costOf(x, clear), 10 + 5 * less);
            }
        }
        c.argument("one less", () -> x.margin(-1));
        c.argument("one more", () -> x.margin(6));
        x.takeAway(0);
        c.due("none is blocked", Calls.costOf(x, 0), 10);
    }

    private void marginsAtEnds() {
        c.sentence("Terms", "the clearance of the cell at its end");
        Swervewright x = Calls.withVehicle(0, 0);
        Calls.block(x, 8, 5);
        x.margin(4);
        c.due("the beginning is nearer", Calls.costOf(x, Calls.drive(x, 8, 8, 2, 0)), 10);
        c.due("its end is nearer", Calls.costOf(x, Calls.drive(x, 8, 9, 6, 0)), 10 + 5);
        c.due("its end in reverse is nearer", Calls.costOf(x, Calls.drive(x, 8, 9, 2, 3)), 10 + 5);
        c.due("the cell between is nearer", Calls.costOf(x, Calls.drive(x, 7, 7, 0, 2)), 24 + 5);
        c.due("each of two ends", Calls.costOf(x, Calls.drive(x, 8, 10, 6, 0, 0, 0)), 30 + 0 + 5 + 10);
        c.due("the words' costs are without it", x.word(8, 9, 6, 8, 8, 6), 10);
        c.due("the cheapest way's with it", x.cheapest(8, 9, 6, 8, 8, 6, false), 15);
    }

    private void cusps() {
        c.sentence("Terms", "Between a move and the next one there is a cusp, if one is in reverse, and the other "
                + "one is not: it costs 20 at first.");
        for (int first = 0; first < 6; first++) {
            Swervewright x = new Swervewright();
            for (int next = 0; next < 6; next++) {
                int plan = Calls.drive(x, 8, 8, 0, first, next);
                boolean isCusp = first < 3 && next >= 3 || first >= 3 && next < 3;
                // behind an arc the heading is odd
                int straight = first % 3 == 0 ? 10 : 14;
                int steps = (first % 3 == 0 ? 10 : 24) + (next % 3 == 0 ? straight : 24);
                String what = "move " + first + ", then " + next;
                c.due(what + ", cusps", x.planOf(plan, 2), isCusp ? 1 : 0);
                c.due(what + ", cost", Calls.costOf(x, plan), steps + (isCusp ? 20 : 0));
            }
        }
    }
}
