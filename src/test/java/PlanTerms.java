/** What the document says under "Terms" of plans, the cheapest ways, shortening and segments. */
final class PlanTerms {
    private static final int NONE = Swervewright.NONE;

    private final Checks c;

    PlanTerms(Checks c) {
        this.c = c;
    }

    void all() {
        numbers();
        poseAndMoves();
        drivenMoves();
        cheapestWithCusps();
        cheapestWithMargins();
        reverseAsTold();
        lowerMoves();
        toItself();
        fromTheOtherEnd();
        drives();
        shorteningFromPoseToPose();
        shorteningTwoMovesOrMore();
        shorteningFromTheLastOne();
        shorteningWithoutAWord();
        shorteningByEachWord();
        shorteningWhatCannotBeDriven();
        shorteningByLess();
        shorteningByOne();
        shorteningWithCuspsAtEnds();
        shorteningWithMargins();
        shorteningByNoMoves();
        shorteningGoesOn();
        segments();
    }

    private void numbers() {
        c.sentence("Terms", "Plans are numbered from 0, at most 12");
        Swervewright x = new Swervewright();
        c.index("none at first", () -> x.planOf(0, 0));
        for (int number = 0; number < 12; number++) {
            boolean isDrive = number % 2 == 0;
            int plan = isDrive ? Calls.drive(x, 3, 8, 0, 0) : x.plan(3, 8, 0, 4, 8, 0, false);
            c.due("number", plan, number);
        }
        c.state("a thirteenth of the cheapest way", () -> x.plan(3, 8, 0, 4, 8, 0, false));
        c.state("a thirteenth of a drive", () -> Calls.drive(x, 3, 8, 0, 0));
        c.due("the last one", x.planOf(11, 0), 1);
        c.index("one more", () -> x.planOf(12, 0));
        c.index("one less", () -> x.planOf(-1, 0));
    }

    private void poseAndMoves() {
        c.sentence("Terms", "a pose, and moves from there.");
        Swervewright x = new Swervewright();
        int plan = x.plan(9, 2, 0, 2, 2, 0, true);
        c.due("its pose", x.poseOf(plan, 0), Calls.pose(9, 2, 0));
        c.moves("from there", x, plan, 3, 3, 3, 3, 3, 3, 3);
        c.due("its end", x.poseOf(plan, 7), Calls.pose(2, 2, 0));
    }

    private void drivenMoves() {
        c.sentence("Terms", "The cheapest way from a pose to another one are moves that can be driven");
        Swervewright x = new Swervewright();
        way("in the open", x, 2, 8, 9, 70);
        Calls.polygon(x, 5, 7, 6, 7, 6, 16, 5, 16);
        c.due("beside a wall", x.cheapest(2, 8, 2, 2, 12, 2, false), 40);
        c.dueTrue("round the wall", x.cheapest(2, 8, 0, 9, 8, 0, true) > 70);
        Calls.polygon(x, 5, 0, 6, 0, 6, 7, 5, 7);
        way("through a wall that is closed", x, 2, 8, 9, NONE);
        way("to a pose that is not free", x, 2, 8, 4, NONE);
        way("from a pose that is not free", x, 0, 8, 2, NONE);
        x.takeAway(1);
        x.takeAway(0);
        way("in the open again", x, 2, 8, 9, 70);
    }

    /** A way in the heading 0, in reverse too, to another x. */
    private void way(String what, Swervewright x, int fromX, int y, int toX, int want) {
        c.due(what, x.cheapest(fromX, y, 0, toX, y, 0, true), want);
        c.due(what + ", from the first pose on", x.cheapestAnew(fromX, y, 0, toX, y, 0, true), want);
    }

    /** A left one and one back: 24 and 14, and a cusp. */
    private void cheapestWithCusps() {
        c.sentence("Terms", "and cost least, with all cusps");
        Swervewright x = new Swervewright();
        int plan = x.plan(8, 8, 0, 9, 8, 7, true);
        c.moves("with a cusp", x, plan, 1, 3);
        c.due("its cost", Calls.costOf(x, plan), 24 + 20 + 14);
        c.dueTrue("forward alone it is dearer than any cusp", x.cheapest(8, 8, 0, 9, 8, 7, false) > 38 + 100);
        int[] cusps = {0, 1, 19, 21, 99, 100};
        for (int cusp : cusps) {
            x.cusp(cusp);
            c.due("a cusp of " + cusp, x.cheapest(8, 8, 0, 9, 8, 7, true), 38 + cusp);
            c.due("from the first pose on", x.cheapestAnew(8, 8, 0, 9, 8, 7, true), 38 + cusp);
        }
        x.cusp(0);
        c.moves("two cusps where they cost nothing", x, x.plan(8, 8, 0, 8, 8, 1, true), 0, 4, 0);
    }

    /** Straight on, seven ends are 3 cells from what is blocked; two rows farther away all but the first end are 4. */
    private void cheapestWithMargins() {
        c.sentence("Terms", "and cost least");
        Swervewright x = new Swervewright();
        Calls.block(x, 8, 5);
        x.margin(3);
        c.moves("as far as the margin", x, x.plan(3, 8, 0, 13, 8, 0, true), 0, 0, 0, 0, 0, 0, 0, 0, 0, 0);
        x.margin(4);
        int plan = x.plan(3, 8, 0, 13, 8, 0, true);
        c.moves("round it", x, plan, 0, 2, 1, 0, 1, 2);
        c.due("its cost", Calls.costOf(x, plan), 4 * 24 + 2 * 10);
        c.due("what straight ones cost", Calls.costOf(x, 0), 10 * 10 + 7 * 5);
        c.due("from the first pose on", x.cheapestAnew(3, 8, 0, 13, 8, 0, true), 116);
        c.due("a plan to nearer cells", x.cheapest(3, 8, 0, 8, 8, 0, true), 5 * 10 + 4 * 5);
    }

    private void reverseAsTold() {
        c.sentence("Terms", "in reverse or not, as told");
        Swervewright x = new Swervewright();
        c.due("back, in reverse", x.cheapest(9, 2, 0, 2, 2, 0, true), 70);
        c.due("back, in reverse, anew", x.cheapestAnew(9, 2, 0, 2, 2, 0, true), 70);
        c.due("back, forward alone", x.cheapest(9, 2, 0, 2, 2, 0, false), NONE);
        c.due("back, forward alone, anew", x.cheapestAnew(9, 2, 0, 2, 2, 0, false), NONE);
        c.state("no plan of that", () -> x.plan(9, 2, 0, 2, 2, 0, false));
        c.due("forward where it may be in reverse", x.cheapest(2, 2, 0, 9, 2, 0, true), 70);
        // forward alone it is a way round: four lefts, a straight one, four lefts
        c.due("one cell back, forward alone", x.cheapest(8, 11, 0, 7, 11, 0, false), 202);
        c.due("one cell back, forward alone, anew", x.cheapestAnew(8, 11, 0, 7, 11, 0, false), 202);
        int plan = x.plan(8, 11, 0, 7, 11, 0, false);
        c.due("no cusps", x.planOf(plan, 2), 0);
        for (int move : Calls.movesOf(x, plan)) {
            c.dueTrue("no move in reverse", move < 3);
        }
    }

    private void lowerMoves() {
        c.sentence("Terms", "of several the one that has the lower move where they differ first.");
        Swervewright x = new Swervewright();
        // a left one and a right one lead by 4, -2 in the heading 0, and cost the same with the straight one at either end
        c.moves("straight ahead of left", x, x.plan(3, 8, 0, 8, 6, 0, false), 0, 1, 2);
        c.moves("straight ahead of right", x, x.plan(3, 8, 0, 8, 10, 0, false), 0, 2, 1);
        c.moves("the same in reverse", x, x.plan(12, 8, 0, 7, 6, 0, true), 3, 4, 5);
        Calls.block(x, 8, 8);
        // 1 2 2 1 and 2 1 1 2 lead by 8, 0 round what is blocked, behind none, one or two straight ones
        c.moves("left ahead of right", x, x.plan(3, 8, 0, 13, 8, 0, true), 0, 0, 1, 2, 2, 1);
        x.takeAway(0);
        x.cusp(0);
        c.moves("straight on and back in arcs, ahead of all in reverse", x, x.plan(8, 8, 0, 8, 8, 1, true), 0, 4, 0);
    }

    private void toItself() {
        c.sentence("Terms", "From a pose to itself it is no move at all, and costs 0, also if that pose is not free.");
        Swervewright x = new Swervewright();
        Calls.block(x, 8, 8);
        x.margin(5);
        int[][] poses = {{4, 4, 3}, {8, 8, 0}, {9, 8, 0}, {0, 0, 0}, {15, 15, 1}};
        boolean[] free = {true, false, false, false, false};
        for (int at = 0; at < poses.length; at++) {
            int[] p = poses[at];
            String what = "pose " + p[0] + ", " + p[1] + ", " + p[2];
            c.dueIs(what + " is free", x.isFree(p[0], p[1], p[2]), free[at]);
            c.due(what, x.cheapest(p[0], p[1], p[2], p[0], p[1], p[2], true), 0);
            c.due(what + ", forward", x.cheapest(p[0], p[1], p[2], p[0], p[1], p[2], false), 0);
            c.due(what + ", anew", x.cheapestAnew(p[0], p[1], p[2], p[0], p[1], p[2], true), 0);
            c.due(what + ", anew, forward", x.cheapestAnew(p[0], p[1], p[2], p[0], p[1], p[2], false), 0);
            int plan = x.plan(p[0], p[1], p[2], p[0], p[1], p[2], at % 2 == 0);
            c.due(what + ", moves", x.planOf(plan, 0), 0);
            c.due(what + ", cost", Calls.costOf(x, plan), 0);
            c.due(what + ", its pose", x.poseOf(plan, 0), Calls.pose(p[0], p[1], p[2]));
        }
    }

    private void fromTheOtherEnd() {
        c.sentence("Terms", "The cheapest way is found a second time by a search from the other end.");
        Swervewright x = new Swervewright();
        Calls.polygon(x, 6, 3, 8, 3, 8, 12, 6, 12);
        Calls.polygon(x, 11, 9, 14, 10, 12, 13);
        x.margin(3);
        for (int to = 0; to < 128; to++) {
            int toX = to * 7 % 16;
            int toY = to * 5 / 8 % 16;
            boolean mayReverse = to % 3 != 0;
            int cost = x.cheapest(3, 4, 1, toX, toY, to % 8, mayReverse);
            int anew = x.cheapestAnew(3, 4, 1, toX, toY, to % 8, mayReverse);
            c.due("to " + toX + ", " + toY + ", " + to % 8, anew, cost);
        }
    }

    private void drives() {
        c.sentence("Terms", "A drive is a plan that is recorded move by move.");
        Swervewright x = new Swervewright();
        x.begin(3, 8, 0);
        for (int move = 0; move < 6; move++) {
            c.due("move by move", x.drive(move), move + 1);
            c.index("no plan yet", () -> x.planOf(0, 0));
        }
        c.due("a plan then", x.keep(), 0);
        c.moves("of all the moves", x, 0, 0, 1, 2, 3, 4, 5);
        x.begin(3, 8, 0);
        c.due("without moves", x.keep(), 1);
        c.moves("without moves", x, 1);
    }

    private void shortened(String what, Swervewright x, int heading, int[] from, int less, int... want) {
        int plan = Calls.drive(x, 8, 8, heading, from);
        int before = Calls.costOf(x, plan);
        int end = x.poseOf(plan, from.length);
        c.due(what + ", what it costs less", x.shorten(plan), less);
        c.moves(what, x, plan, want);
        c.due(what + ", what it costs then", Calls.costOf(x, plan), before - less);
        c.due(what + ", its end", x.poseOf(plan, want.length), end);
        c.due(what + ", its pose", x.poseOf(plan, 0), Calls.pose(8, 8, heading));
        c.due(what + ", it can be driven", x.planOf(plan, 4), 1);
    }

    /** One cell back is a word of 202; so the first pose has none that costs less, but the second one is the last one. */
    private void shorteningFromPoseToPose() {
        c.sentence("Terms", "To shorten a plan: for each of its poses, from the first one on, as long as there are "
                + "moves behind it");
        Swervewright x = new Swervewright();
        shortened("at the second pose", x, 0, new int[] {3, 3, 0}, 40, 3);
        shortened("at the first and the second pose", x, 0, new int[] {0, 3, 3, 3, 0}, 80, 3);
        shortened("at the first pose, and then no more", x, 0, new int[] {0, 0, 3, 3}, 60);
        shortened("no move", x, 0, new int[] {}, 0);
    }

    /** In the last row a word in place of the fourth move alone would cost 202, and that move has 10 and two cusps. */
    private void shorteningTwoMovesOrMore() {
        c.sentence("Terms", "of the poses two moves or more behind it");
        Swervewright x = new Swervewright();
        shortened("one move", x, 0, new int[] {1}, 0, 1);
        shortened("one move in reverse", x, 0, new int[] {3}, 0, 3);
        shortened("two moves", x, 0, new int[] {0, 3}, 40);
        shortened("two moves at the end", x, 0, new int[] {4, 1, 4}, 88, 4);
        x.cusp(100);
        shortened("one move among others", x, 0, new int[] {3, 4, 2, 3, 2}, 0, 3, 4, 2, 3, 2);
    }

    /** From the nearest pose on, one straight move would be left of 0, 0, 3, and the 3 behind it. */
    private void shorteningFromTheLastOne() {
        c.sentence("Terms", "from the last one on");
        Swervewright x = new Swervewright();
        shortened("the last one is the same pose", x, 0, new int[] {0, 0, 3, 3}, 60);
        // 0 1 1 1 1 1 1 costs 154; a straight one in place of the first three would leave 78
        shortened("the last one saves less", x, 0, new int[] {0, 4, 1, 4, 4}, 12, 0, 1, 1, 1, 1, 1, 1);
    }

    /** Behind 0 4 0 the cell is the same, and the heading one more: no word leads there. */
    private void shorteningWithoutAWord() {
        c.sentence("Terms", "if there is a word of both");
        Swervewright x = new Swervewright();
        c.due("none of the first and the last pose", x.word(8, 8, 0, 8, 8, 1), NONE);
        shortened("no word that costs less", x, 0, new int[] {0, 4, 0}, 0, 0, 4, 0);
        shortened("all words are there already", x, 0, new int[] {0, 0, 0}, 0, 0, 0, 0);
    }

    /** There and back on the way is what each word does without. */
    private void shorteningByEachWord() {
        c.sentence("Terms", "if there is a word of both");
        Swervewright x = new Swervewright();
        shortened("left, straight, left", x, 0, new int[] {1, 0, 0, 3, 1}, 68, 1, 0, 1);
        shortened("right, straight, right", x, 0, new int[] {2, 0, 0, 3, 2}, 68, 2, 0, 2);
        shortened("left, straight, right", x, 0, new int[] {1, 0, 0, 3, 2}, 68, 1, 0, 2);
        shortened("right, straight, left", x, 0, new int[] {2, 0, 0, 3, 1}, 68, 2, 0, 1);
        shortened("left, right, left", x, 0, new int[] {1, 2, 0, 3, 1}, 60, 1, 2, 1);
        shortened("right, left, right", x, 0, new int[] {2, 1, 0, 3, 2}, 60, 2, 1, 2);
    }

    /** A right one and four lefts cost 120, but lead off the field; two straight ones behind a left one are in the way. */
    private void shorteningWhatCannotBeDriven() {
        c.sentence("Terms", "all its moves can be driven");
        Swervewright x = new Swervewright();
        c.due("the word off the field", x.word(8, 8, 0, 14, 5, 5), 120);
        shortened("off the field", x, 0, new int[] {1, 1, 1, 5, 4}, 0, 1, 1, 1, 5, 4);
        int plan = Calls.drive(x, 3, 8, 0, 0, 1, 2, 2, 1, 0);
        int wall = Calls.block(x, 8, 8);
        c.due("the straight word is blocked", x.word(3, 8, 0, 13, 8, 0), 100);
        c.due("so it is not put there", x.shorten(plan), 0);
        c.moves("as it was", x, plan, 0, 1, 2, 2, 1, 0);
        x.takeAway(wall);
        x.vehicle(1, 1);
        c.due("it can be driven then", x.shorten(plan), 16);
        c.moves("straight on", x, plan, 0, 0, 0, 0, 0, 0, 0, 0, 0, 0);
        Swervewright y = Calls.withVehicle(0, 0);
        Calls.block(y, 10, 8);
        c.due("a straight one and a left one", y.word(8, 8, 0, 11, 7, 7), 34);
        shortened("its last arc's cell between is blocked", y, 0, new int[] {1, 2, 0, 5}, 0, 1, 2, 0, 5);
    }

    private void shorteningByLess() {
        c.sentence("Terms", "and the plan costs less with it in place of what is between");
        Swervewright x = new Swervewright();
        shortened("half a circle as dear as in reverse", x, 0, new int[] {4, 4, 4, 4}, 0, 4, 4, 4, 4);
        shortened("three arcs as dear as two straight ones and so on", x, 0, new int[] {0, 0, 1, 0, 0}, 0, 0, 0, 1, 0, 0);
        // a straight one and seven lefts cost 178, as much as 0 4 and two cusps of 72
        x.cusp(72);
        shortened("as much is not less", x, 0, new int[] {0, 4, 0}, 0, 0, 4, 0);
        x.cusp(73);
        shortened("by two", x, 0, new int[] {0, 4, 0}, 2, 0, 1, 1, 1, 1, 1, 1, 1, 0);
        // behind the first move six rights, four straight ones and a right one cost 208, the moves 72 and two cusps
        x.cusp(68);
        shortened("as much at the second pose", x, 0, new int[] {0, 4, 5, 1}, 0, 0, 4, 5, 1);
        x.cusp(69);
        shortened("by two at the second pose", x, 0, new int[] {0, 4, 5, 1}, 2, 0, 2, 2, 2, 2, 2, 2, 0, 0, 0, 0, 2);
    }

    /** Six lefts and two straight ones cost 164, two lefts in reverse and two straight ones 68 and a cusp. */
    private void shorteningByOne() {
        c.sentence("Terms", "and the plan costs less with it in place of what is between");
        Swervewright x = Calls.withVehicle(0, 0);
        x.cusp(96);
        shortened("as much", x, 0, new int[] {4, 4, 0, 0}, 0, 4, 4, 0, 0);
        x.cusp(97);
        shortened("by one", x, 0, new int[] {4, 4, 0, 0}, 1, 1, 1, 1, 1, 1, 1, 0, 0);
    }

    private void shorteningWithCuspsAtEnds() {
        c.sentence("Terms", "and the plan costs less with it in place of what is between");
        Swervewright x = new Swervewright();
        x.cusp(100);
        // 5 3 between two lefts has cusps at both ends: 24, 10 and 200;
        // three rights, a straight one and four rights cost 178
        shortened("both cusps go", x, 0, new int[] {3, 1, 5, 3, 1, 3}, 56, 3, 1, 2, 2, 2, 0, 2, 2, 2, 2, 1, 3);
        // eight arcs cost 192, and would have cusps at both ends; 4 2 2 4 between 3 and 3 costs 96 and two cusps within
        shortened("both cusps would come", x, 0, new int[] {3, 4, 2, 2, 4, 3}, 0, 3, 4, 2, 2, 4, 3);
        // five lefts, a straight one and four lefts cost 230; a left one, one back, and a cusp at each end of that 238
        shortened("the one at the end goes", x, 0, new int[] {1, 3, 2}, 8, 1, 1, 1, 1, 1, 0, 1, 1, 1, 1, 2);
    }

    /** In the first field the straight ones end nearer to what is blocked, in the second one the arcs end farther. */
    private void shorteningWithMargins() {
        c.sentence("Terms", "and the plan costs less with it in place of what is between");
        Swervewright x = new Swervewright();
        Calls.block(x, 11, 8);
        shortened("without a margin", x, 1, new int[] {0, 1, 1, 0}, 8, 1, 0, 0, 1);
        x.margin(1);
        shortened("a margin of 1", x, 1, new int[] {0, 1, 1, 0}, 8, 1, 0, 0, 1);
        x.margin(2);
        shortened("a margin of 2", x, 1, new int[] {0, 1, 1, 0}, 0, 0, 1, 1, 0);
        x.takeAway(0);
        Calls.block(x, 8, 6);
        shortened("as dear in steps, and out of reach of the margin", x, 0, new int[] {0, 0, 2, 0, 0}, 0, 0, 0, 2, 0, 0);
        x.margin(3);
        shortened("as dear in steps, but farther away", x, 0, new int[] {0, 0, 2, 0, 0}, 10, 2, 1, 2);
        x.margin(4);
        // the ends of 0 1 1 0 are 2, 3, 4 and 4 cells away: 68 and 15; those of 1 0 1 are 2, 3 and 4 away: 62 and 15
        shortened("from near to far", x, 0, new int[] {0, 1, 1, 0}, 6, 1, 0, 1);
    }

    private void shorteningByNoMoves() {
        c.sentence("Terms", "it is put there (also a word without moves)");
        Swervewright x = new Swervewright();
        shortened("in place of all", x, 0, new int[] {2, 5}, 68);
        shortened("behind a move", x, 0, new int[] {4, 0, 3}, 68, 4);
        shortened("ahead of a move", x, 0, new int[] {0, 3, 3}, 40, 3);
        shortened("a whole circle", x, 0, new int[] {2, 2, 2, 5, 5, 5}, 164);
        // between moves in reverse the cusps at both ends go with it
        shortened("between moves in reverse", x, 0, new int[] {3, 0, 3, 3}, 60, 3, 3);
    }

    /** Two straight ones and two lefts come first; then left, straight, left in place of what is behind one move. */
    private void shorteningGoesOn() {
        c.sentence("Terms", "and it goes on with the pose that is one move behind.");
        Swervewright x = new Swervewright();
        shortened("twice", x, 0, new int[] {0, 1, 0, 1, 3, 0}, 60, 0, 1, 0, 1);
        shortened("at two poses in turn", x, 0, new int[] {0, 3, 3, 1, 4}, 128, 3);
        // six lefts, a straight one and a left one would save more at the second pose, but lead off the field
        x.cusp(100);
        shortened("not at the same pose again", x, 0, new int[] {0, 4, 2, 3}, 86, 2, 2, 2, 2, 2, 0, 0, 0, 2, 2, 2, 2, 2);
    }

    private void segments() {
        c.sentence("Terms", "A segment of a plan are moves of one kind, one behind the other, as many as there are.");
        Swervewright x = new Swervewright();
        for (int move = 0; move < 6; move++) {
            int one = Calls.drive(x, 8, 8, 0, move);
            c.due("one move", x.segment(one, 0), 100 * move + 1);
            c.due("one segment", x.planOf(one, 3), 1);
            c.index("no second one", () -> x.segment(one, 1));
        }
        int all = Calls.drive(x, 8, 11, 0, 1, 1, 1, 1, 1, 1, 1, 1, 1, 1, 1, 1);
        c.due("all moves", x.segment(all, 0), 112);
        c.due("all in one segment", x.planOf(all, 3), 1);
        int none = Calls.drive(x, 8, 8, 0);
        c.due("none without moves", x.planOf(none, 3), 0);
        c.index("no first one", () -> x.segment(none, 0));
        int each = Calls.drive(x, 8, 8, 0, 0, 3, 1, 4, 2, 5, 4, 1);
        c.due("each by itself", x.planOf(each, 3), 8);
        c.due("the last of them", x.segment(each, 7), 101);
        int again = Calls.drive(x, 5, 8, 0, 0, 0, 1, 2, 2, 0);
        int[] want = {2, 101, 202, 1};
        for (int at = 0; at < want.length; at++) {
            c.due("a kind again is another segment, " + at, x.segment(again, at), want[at]);
        }
        c.index("not so many", () -> x.segment(again, 4));
    }
}
