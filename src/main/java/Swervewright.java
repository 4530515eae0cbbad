import java.util.Arrays;

/** A planner for vehicles with turning limits on a lattice; ../shared/DOC.md promises what each call does. */
public final class Swervewright {

    public static final int NONE = -1;
    public static final int STRAIGHT = 0, LEFT = 1, RIGHT = 2, BACK = 3, BACK_LEFT = 4, BACK_RIGHT = 5;

    private static final int SIDE = 16;
    private static final int CELLS = SIDE * SIDE;
    private static final int HEADINGS = 8;
    private static final int POSES = HEADINGS * CELLS;
    private static final int MOVES = 6;
    private static final int LEAST_CORNERS = 3;
    private static final int MOST_CORNERS = 6;
    private static final int MOST_POLYGONS = 8;
    private static final int MOST_OVERHANG = 2;
    private static final int MOST_CUSP = 100;
    private static final int MOST_MARGIN = 5;
    private static final int MOST_PLANS = 12;
    private static final int MOST_DRIVEN = 60;
    private static final int MOST_SQUARE = 10000;
    private static final int MOST_CHANGE = 1000;
    /** More than any way can cost, and small enough that no sum of two runs over. */
    private static final int FAR = 1 << 29;

    private final Field field;
    private final Prices prices;
    private final Ways ways;
    private final Word lastWord;
    private final Shortener shortener;
    private final Pace pace;
    private final Route[] plans;
    private int planCount;
    private final Route recorded;
    private boolean isRecording;
    private Polygon outline;

    public Swervewright() {
        Arcs arcs = new Arcs();
        field = new Field();
        prices = new Prices(field);
        ways = new Ways(field, prices);
        lastWord = new Word(arcs);
        shortener = new Shortener(field, prices, arcs);
        pace = new Pace();
        plans = new Route[MOST_PLANS];
        recorded = new Route();
        outline = new Polygon();
    }

    // ---- field, vehicle

    public int corner(int x, int y) throws IllegalArgumentException, IllegalStateException {
        if (isOutside(x, 0, SIDE) || isOutside(y, 0, SIDE)) {
            throw new IllegalArgumentException("a corner's x and y are 0 to 16");
        }
        if (outline.count() >= MOST_CORNERS) {
            throw new IllegalStateException("there are 6 corners");
        }
        outline.add(x, y);
        return outline.count();
    }

    public int polygon() throws IllegalStateException {
        if (outline.count() < LEAST_CORNERS) {
            throw new IllegalStateException("there are fewer than 3 corners");
        }
        if (field.polygonCount() >= MOST_POLYGONS) {
            throw new IllegalStateException("there were 8 polygons");
        }
        int number = field.add(outline);
        outline = new Polygon();
        return number;
    }

    public int forget() {
        int count = outline.count();
        outline.clear();
        return count;
    }

    public int takeAway(int polygon) throws IndexOutOfBoundsException, IllegalStateException {
        if (isOutside(polygon, 0, field.polygonCount() - 1)) {
            throw new IndexOutOfBoundsException("there is no such polygon");
        }
        if (field.isGone(polygon)) {
            throw new IllegalStateException("the polygon was taken away");
        }
        return field.remove(polygon);
    }

    public void vehicle(int front, int behind) throws IllegalArgumentException {
        if (isOutside(front, 0, MOST_OVERHANG) || isOutside(behind, 0, MOST_OVERHANG)) {
            throw new IllegalArgumentException("front and behind are 0 to 2");
        }
        field.setVehicle(front, behind);
    }

    public int cusp(int cost) throws IllegalArgumentException {
        if (isOutside(cost, 0, MOST_CUSP)) {
            throw new IllegalArgumentException("a cusp costs 0 to 100");
        }
        return prices.setCuspCost(cost);
    }

    public int margin(int cells) throws IllegalArgumentException {
        if (isOutside(cells, 0, MOST_MARGIN)) {
            throw new IllegalArgumentException("the margin is 0 to 5");
        }
        return prices.setMarginCells(cells);
    }

    public int clearance(int x, int y) throws IndexOutOfBoundsException {
        return field.clearOf(requirePose(x, y, 0));
    }

    public boolean isFree(int x, int y, int heading) throws IndexOutOfBoundsException {
        return field.isOpen(requirePose(x, y, heading));
    }

    // ---- words, ways

    public int word(int x, int y, int heading, int toX, int toY, int toHeading) throws IndexOutOfBoundsException {
        int from = requirePose(x, y, heading);
        int to = requirePose(toX, toY, toHeading);
        lastWord.find(from, to);
        return lastWord.costOrNone();
    }

    public int found(int what) throws IllegalArgumentException {
        if (isOutside(what, 0, 3)) {
            throw new IllegalArgumentException("of a word 0 to 3 is told");
        }
        return lastWord.tell(what);
    }

    public int cheapest(int x, int y, int heading, int toX, int toY, int toHeading, boolean mayReverse)
            throws IndexOutOfBoundsException {
        int from = requirePose(x, y, heading);
        int to = requirePose(toX, toY, toHeading);
        return ways.costFromEnd(from, to, mayReverse);
    }

    public int cheapestAnew(int x, int y, int heading, int toX, int toY, int toHeading, boolean mayReverse)
            throws IndexOutOfBoundsException {
        int from = requirePose(x, y, heading);
        int to = requirePose(toX, toY, toHeading);
        return ways.costFromStart(from, to, mayReverse);
    }

    // ---- plans

    public int plan(int x, int y, int heading, int toX, int toY, int toHeading, boolean mayReverse)
            throws IndexOutOfBoundsException, IllegalStateException {
        int from = requirePose(x, y, heading);
        int to = requirePose(toX, toY, toHeading);
        requireRoomForPlan();
        if (ways.costFromEnd(from, to, mayReverse) == NONE) {
            throw new IllegalStateException("there is no way");
        }
        return addPlan(ways.trace(from, to, mayReverse));
    }

    public void begin(int x, int y, int heading) throws IndexOutOfBoundsException, IllegalStateException {
        int pose = requirePose(x, y, heading);
        if (!field.isOpen(pose)) {
            throw new IllegalStateException("the pose is not free");
        }
        recorded.restart(pose);
        isRecording = true;
    }

    public int drive(int move) throws IndexOutOfBoundsException, IllegalStateException {
        if (isOutside(move, 0, MOVES - 1)) {
            throw new IndexOutOfBoundsException("there is no such move");
        }
        requireRecording();
        if (recorded.count() >= MOST_DRIVEN) {
            throw new IllegalStateException("there are 60 moves");
        }
        int end = field.driven(recorded.lastPose(), move);
        if (end == NONE) {
            throw new IllegalStateException("the move cannot be driven");
        }
        recorded.add(move, end);
        return recorded.count();
    }

    public int keep() throws IllegalStateException {
        requireRecording();
        requireRoomForPlan();
        isRecording = false;
        return addPlan(recorded);
    }

    public int shorten(int plan) throws IndexOutOfBoundsException, IllegalStateException {
        Route route = requirePlan(plan);
        if (!field.canDrive(route)) {
            throw new IllegalStateException("the plan cannot be driven");
        }
        return shortener.saveOn(route);
    }

    public int planOf(int plan, int what) throws IndexOutOfBoundsException, IllegalArgumentException {
        Route route = requirePlan(plan);
        switch (what) {
            case 0:
                return route.count();
            case 1:
                return prices.costOf(route);
            case 2:
                return route.cuspCount();
            case 3:
                return route.segmentCount();
            case 4:
                return field.canDrive(route) ? 1 : 0;
            default:
                throw new IllegalArgumentException("of a plan 0 to 4 is told");
        }
    }

    public int moveOf(int plan, int at) throws IndexOutOfBoundsException {
        int move = requirePlan(plan).moveAt(at);
        if (move == NONE) {
            throw new IndexOutOfBoundsException("there is no such move");
        }
        return move;
    }

    public int poseOf(int plan, int at) throws IndexOutOfBoundsException {
        int pose = requirePlanPose(requirePlan(plan), at);
        return 1000 * Lattice.headingOf(pose) + Lattice.cellOf(pose);
    }

    public int segment(int plan, int at) throws IndexOutOfBoundsException {
        Route route = requirePlan(plan);
        int first = route.segmentStart(at);
        if (first == NONE) {
            throw new IndexOutOfBoundsException("the plan has not so many segments");
        }
        return 100 * route.moveAt(first) + route.alikeFrom(first);
    }

    // ---- speeds

    public void speeds(int straight, int arc, int faster, int slower) throws IllegalArgumentException {
        if (isOutside(straight, 1, MOST_SQUARE) || isOutside(arc, 1, MOST_SQUARE)) {
            throw new IllegalArgumentException("squares of speeds are 1 to 10000");
        }
        if (isOutside(faster, 1, MOST_CHANGE) || isOutside(slower, 1, MOST_CHANGE)) {
            throw new IllegalArgumentException("speeding up and slowing down are 1 to 1000");
        }
        pace.set(straight, arc, faster, slower);
    }

    public float speed(int plan, int at) throws IndexOutOfBoundsException {
        Route route = requirePlan(plan);
        requirePlanPose(route, at);
        pace.reckon(route);
        return pace.squareAt(at);
    }

    public int peak(int plan) throws IndexOutOfBoundsException {
        Route route = requirePlan(plan);
        pace.reckon(route);
        return (int) pace.greatest(route);
    }

    // ---- what the calls share

    private static boolean isOutside(int number, int least, int most) {
        return number < least || number > most;
    }

    private static int requirePose(int x, int y, int heading) {
        int pose = Lattice.numberOf(x, y, heading);
        if (pose == NONE) {
            throw new IndexOutOfBoundsException("there is no such cell or heading");
        }
        return pose;
    }

    private Route requirePlan(int number) {
        Route route = number >= 0 && number < plans.length ? plans[number] : null;
        if (route == null) {
            throw new IndexOutOfBoundsException("there is no such plan");
        }
        return route;
    }

    private static int requirePlanPose(Route route, int at) {
        int pose = route.poseAt(at);
        if (pose == NONE) {
            throw new IndexOutOfBoundsException("there is no such pose");
        }
        return pose;
    }

    private void requireRecording() {
        if (!isRecording) {
            throw new IllegalStateException("no drive is being recorded");
        }
    }

    private void requireRoomForPlan() {
        if (planCount >= MOST_PLANS) {
            throw new IllegalStateException("there are 12 plans");
        }
    }

    /** Keeps a copy, since the route given is one that is written over later. */
    private int addPlan(Route route) {
        int number = planCount;
        if (number >= 0 && number < plans.length) {
            plans[number] = route.copied();
            planCount++;
        }
        return number;
    }

    /** Poses as numbers (256 times the heading, 16 times y, and x), and where moves lead from them. */
    private static final class Lattice {
        private static final int[] STEP_X = {1, 1, 0, -1, -1, -1, 0, 1};
        private static final int[] STEP_Y = {0, 1, 1, 1, 0, -1, -1, -1};
        private static final int EVEN_COST = 10;
        private static final int ODD_COST = 14;
        /** The two steps of an arc lie in neighbouring headings: one even, one odd. */
        private static final int ARC_COST = EVEN_COST + ODD_COST;

        static int numberOf(int x, int y, int heading) {
            boolean isCell = x >= 0 && x < SIDE && y >= 0 && y < SIDE;
            boolean isHeading = heading >= 0 && heading < HEADINGS;
            return isCell && isHeading ? heading * CELLS + y * SIDE + x : NONE;
        }

        static int xOf(int pose) {
            return pose & 15;
        }

        static int yOf(int pose) {
            return (pose >> 4) & 15;
        }

        static int cellOf(int pose) {
            return pose & 255;
        }

        static int headingOf(int pose) {
            return (pose >> 8) & 7;
        }

        static int stepX(int heading) {
            return STEP_X[heading & 7];
        }

        static int stepY(int heading) {
            return STEP_Y[heading & 7];
        }

        static boolean isEven(int heading) {
            return (heading & 1) == 0;
        }

        static boolean isBack(int move) {
            return move >= BACK;
        }

        static int wayOf(int move) {
            return move >= BACK ? -1 : 1;
        }

        static boolean isArc(int move) {
            return move != STRAIGHT && move != BACK;
        }

        /** By how much the forward form of a move changes the heading. */
        static int turnOf(int move) {
            if (move == LEFT || move == BACK_LEFT) {
                return -1;
            }
            return move == RIGHT || move == BACK_RIGHT ? 1 : 0;
        }

        /** The move that leads back to where this one came from. */
        static int oppositeOf(int move) {
            return isBack(move) ? move - BACK : move + BACK;
        }

        static boolean isCusp(int move, int next) {
            return move != NONE && next != NONE && isBack(move) != isBack(next);
        }

        /** The pose one step on in its heading (way 1) or against it (way -1); NONE off the field. */
        static int stepped(int pose, int way) {
            int heading = headingOf(pose);
            return numberOf(xOf(pose) + way * stepX(heading), yOf(pose) + way * stepY(heading), heading);
        }

        static int turned(int pose, int move) {
            int heading = headingOf(pose) + wayOf(move) * turnOf(move);
            return (heading & 7) * CELLS + cellOf(pose);
        }

        /** Where a move leads, free or not; NONE off the field. */
        static int ended(int pose, int move) {
            int between = stepped(pose, wayOf(move));
            if (between == NONE || !isArc(move)) {
                return between;
            }
            return stepped(turned(between, move), wayOf(move));
        }

        static int stepsCost(int heading, int move) {
            if (isArc(move)) {
                return ARC_COST;
            }
            return isEven(heading) ? EVEN_COST : ODD_COST;
        }
    }

    /** Corners in the order told; the last one is joined with the first one. */
    private static final class Polygon {
        private final int[] xs = new int[MOST_CORNERS];
        private final int[] ys = new int[MOST_CORNERS];
        private int count;

        int count() {
            return count;
        }

        void clear() {
            count = 0;
        }

        void add(int x, int y) {
            if (count >= 0 && count < xs.length && count < ys.length) {
                xs[count] = x;
                ys[count] = y;
                count++;
            }
        }

        private int xAt(int at) {
            return at >= 0 && at < xs.length ? xs[at] : 0;
        }

        private int yAt(int at) {
            return at >= 0 && at < ys.length ? ys[at] : 0;
        }

        boolean blocks(int x, int y) {
            boolean isInside = false;
            int last = count - 1;
            for (int at = 0; at < count; at++) {
                boolean isRising = yAt(last) < yAt(at);
                if (isCrossed(isRising ? last : at, isRising ? at : last, x, y)) {
                    isInside = !isInside;
                }
                last = at;
            }
            return isInside;
        }

        /** All is doubled and multiplied by the side's rise, so that whole numbers tell it exactly. */
        private boolean isCrossed(int low, int high, int x, int y) {
            int middleX = 2 * x + 1;
            int middleY = 2 * y + 1;
            if (2 * yAt(low) > middleY || 2 * yAt(high) < middleY) {
                return false;
            }
            int rise = yAt(high) - yAt(low);
            int crossing = 2 * xAt(low) * rise + (middleY - 2 * yAt(low)) * (xAt(high) - xAt(low));
            return crossing > middleX * rise;
        }
    }

    /** Polygons, the cells they block, and the poses that are free for the vehicle. */
    private static final class Field {
        private final Polygon[] polygons = new Polygon[MOST_POLYGONS];
        private int polygonCount;
        private final int[] covers = new int[CELLS];
        private final int[] clears = new int[CELLS];
        private final boolean[] opens = new boolean[POSES];
        private int front = 1;
        private int behind = 1;

        Field() {
            survey();
        }

        int polygonCount() {
            return polygonCount;
        }

        boolean isGone(int number) {
            return number < 0 || number >= polygons.length || polygons[number] == null;
        }

        int add(Polygon polygon) {
            int number = polygonCount;
            if (number < 0 || number >= polygons.length) {
                return NONE;
            }
            polygons[number] = polygon;
            polygonCount++;
            cover(polygon, 1);
            survey();
            return number;
        }

        /** Returns how many cells are not blocked any more. */
        int remove(int number) {
            Polygon polygon = number >= 0 && number < polygons.length ? polygons[number] : null;
            if (polygon == null) {
                return 0;
            }
            polygons[number] = null;
            int cleared = cover(polygon, -1);
            survey();
            return cleared;
        }

        /** Counts the polygon's cells up or down; returns how many of them no polygon covers then. */
        private int cover(Polygon polygon, int by) {
            int bare = 0;
            for (int cell = 0; cell < covers.length; cell++) {
                if (polygon.blocks(Lattice.xOf(cell), Lattice.yOf(cell))) {
                    covers[cell] += by;
                    bare += covers[cell] == 0 ? 1 : 0;
                }
            }
            return bare;
        }

        void setVehicle(int newFront, int newBehind) {
            front = newFront;
            behind = newBehind;
            judgePoses();
        }

        private void survey() {
            measureClears();
            judgePoses();
        }

        /** Two sweeps are enough: each shortest way by the greater difference goes once down and once up the rows. */
        private void measureClears() {
            for (int cell = 0; cell < clears.length; cell++) {
                clears[cell] = isBlocked(cell) ? 0 : SIDE;
            }
            for (int cell = 0; cell < clears.length; cell++) {
                nearTo(cell, -1, 0);
                nearTo(cell, -1, -1);
                nearTo(cell, 0, -1);
                nearTo(cell, 1, -1);
            }
            for (int cell = clears.length - 1; cell >= 0; cell--) {
                nearTo(cell, 1, 0);
                nearTo(cell, 1, 1);
                nearTo(cell, 0, 1);
                nearTo(cell, -1, 1);
            }
        }

        private void nearTo(int cell, int byX, int byY) {
            int neighbour = Lattice.numberOf(Lattice.xOf(cell) + byX, Lattice.yOf(cell) + byY, 0);
            if (neighbour != NONE && cell >= 0 && cell < clears.length) {
                clears[cell] = Math.min(clears[cell], clearOf(neighbour) + 1);
            }
        }

        private void judgePoses() {
            for (int pose = 0; pose < opens.length; pose++) {
                opens[pose] = !isBlocked(pose) && isClear(pose, 1, front) && isClear(pose, -1, behind);
            }
        }

        private boolean isClear(int pose, int way, int cells) {
            int at = pose;
            for (int step = 0; step < cells; step++) {
                at = Lattice.stepped(at, way);
                if (at == NONE || isBlocked(at)) {
                    return false;
                }
            }
            return true;
        }

        private boolean isBlocked(int pose) {
            int cell = Lattice.cellOf(pose);
            return cell < covers.length && covers[cell] > 0;
        }

        int clearOf(int pose) {
            int cell = Lattice.cellOf(pose);
            return cell < clears.length ? clears[cell] : 0;
        }

        boolean isOpen(int pose) {
            return pose >= 0 && pose < opens.length && opens[pose];
        }

        /** Where a move leads if it can be driven, else NONE. */
        int driven(int pose, int move) {
            int way = Lattice.wayOf(move);
            int between = isOpen(pose) ? Lattice.stepped(pose, way) : NONE;
            if (!isOpen(between)) {
                return NONE;
            }
            if (!Lattice.isArc(move)) {
                return between;
            }
            int turned = Lattice.turned(between, move);
            int end = isOpen(turned) ? Lattice.stepped(turned, way) : NONE;
            return isOpen(end) ? end : NONE;
        }

        boolean canDrive(Route route) {
            int pose = route.poseAt(0);
            for (int at = 0; at < route.count() && pose != NONE; at++) {
                pose = driven(pose, route.moveAt(at));
            }
            return isOpen(pose);
        }
    }

    /** What moves and cusps cost now. */
    private static final class Prices {
        private static final int PER_MISSING_CELL = 5;

        private final Field field;
        private int cuspCost = 20;
        private int marginCells;

        Prices(Field field) {
            this.field = field;
        }

        int setCuspCost(int cost) {
            int was = cuspCost;
            cuspCost = cost;
            return was;
        }

        int setMarginCells(int cells) {
            int was = marginCells;
            marginCells = cells;
            return was;
        }

        int turnaround(int move, int next) {
            return Lattice.isCusp(move, next) ? cuspCost : 0;
        }

        int cuspCost() {
            return cuspCost;
        }

        int ofMove(int pose, int move, int end) {
            int missing = Math.max(0, marginCells - field.clearOf(end));
            return Lattice.stepsCost(Lattice.headingOf(pose), move) + PER_MISSING_CELL * missing;
        }

        int costOf(Route route) {
            return between(route, 0, route.count());
        }

        /** What lies between two poses of a route, with the cusps at both of them. */
        int between(Route route, int from, int to) {
            int cost = turnaround(route.moveAt(to - 1), route.moveAt(to));
            for (int at = from; at < to; at++) {
                int move = route.moveAt(at);
                cost += ofMove(route.poseAt(at), move, route.poseAt(at + 1));
                cost += turnaround(route.moveAt(at - 1), move);
            }
            return cost;
        }
    }

    /** States of a search in rows by their cost; a row is used again for costs that lie SPAN apart. */
    private static final class Queue {
        /** More than the dearest move with a cusp (149), so that two costs in wait never share a row. */
        private static final int SPAN = 256;

        private final int[] costs = new int[2 * POSES];
        private final int[] after = new int[2 * POSES];
        private final int[] ahead = new int[2 * POSES];
        private final int[] firsts = new int[SPAN];
        private int waiting;
        private int level;

        void clear() {
            Arrays.fill(costs, FAR);
            Arrays.fill(firsts, NONE);
            waiting = 0;
            level = 0;
        }

        private boolean isState(int state) {
            return state >= 0 && state < costs.length && state < after.length && state < ahead.length;
        }

        int costOf(int state) {
            return isState(state) ? costs[state] : FAR;
        }

        /** Costs never fall below the level, so a state that was taken is never put in again. */
        void lower(int state, int cost) {
            if (!isState(state) || cost >= costs[state]) {
                return;
            }
            if (costs[state] < FAR) {
                unlink(state);
            }
            costs[state] = cost;
            link(state);
        }

        /** The state in wait that costs least; NONE if none waits. */
        int take() {
            for (int looked = 0; looked < SPAN && waiting > 0; looked++) {
                int state = firsts[level & (SPAN - 1)];
                if (state != NONE) {
                    unlink(state);
                    return state;
                }
                level++;
            }
            return NONE;
        }

        private void link(int state) {
            if (!isState(state)) {
                return;
            }
            int row = costs[state] & (SPAN - 1);
            int next = firsts[row];
            if (isState(next)) {
                ahead[next] = state;
            }
            after[state] = next;
            ahead[state] = NONE;
            firsts[row] = state;
            waiting++;
        }

        private void unlink(int state) {
            if (!isState(state)) {
                return;
            }
            int next = after[state];
            int previous = ahead[state];
            if (isState(next)) {
                ahead[next] = previous;
            }
            if (isState(previous)) {
                after[previous] = next;
            } else {
                firsts[costs[state] & (SPAN - 1)] = next;
            }
            waiting--;
        }
    }

    /** The cheapest ways. A state is a pose, and whether the move that led to it was in reverse. */
    private static final class Ways {
        private final Field field;
        private final Prices prices;
        private final Queue queue = new Queue();
        private final Route traced = new Route();

        Ways(Field field, Prices prices) {
            this.field = field;
            this.prices = prices;
        }

        int costFromEnd(int from, int to, boolean mayReverse) {
            return searched(to, from, mayReverse, true);
        }

        int costFromStart(int from, int to, boolean mayReverse) {
            return searched(from, to, mayReverse, false);
        }

        private static int stateOf(int pose, boolean isBack) {
            return isBack ? pose + POSES : pose;
        }

        /** From the seed outward to the goal; the first move has no cusp, so the seed stands in both gears. */
        private int searched(int seed, int goal, boolean mayReverse, boolean isFromEnd) {
            if (seed != goal && !(field.isOpen(seed) && field.isOpen(goal))) {
                return NONE;
            }
            queue.clear();
            queue.lower(stateOf(seed, false), 0);
            if (mayReverse) {
                queue.lower(stateOf(seed, true), 0);
            }
            for (int taken = 0; taken < 2 * POSES; taken++) {
                int state = queue.take();
                if (state == NONE) {
                    return NONE;
                }
                boolean isBack = state >= POSES;
                int pose = isBack ? state - POSES : state;
                if (pose == goal) {
                    return queue.costOf(state);
                }
                if (isFromEnd) {
                    spreadAgainst(pose, isBack, mayReverse);
                } else {
                    spreadAlong(pose, isBack, mayReverse);
                }
            }
            return NONE;
        }

        private void spreadAlong(int pose, boolean isBack, boolean mayReverse) {
            int cost = queue.costOf(stateOf(pose, isBack));
            int moves = mayReverse ? MOVES : BACK;
            for (int move = 0; move < moves; move++) {
                int end = field.driven(pose, move);
                if (end != NONE) {
                    boolean goesBack = Lattice.isBack(move);
                    int turnaround = goesBack == isBack ? 0 : prices.cuspCost();
                    queue.lower(stateOf(end, goesBack), cost + prices.ofMove(pose, move, end) + turnaround);
                }
            }
        }

        /** From the end of moves to their beginnings, which are reached in either gear. */
        private void spreadAgainst(int end, boolean isBack, boolean mayReverse) {
            int cost = queue.costOf(stateOf(end, isBack));
            int first = isBack ? BACK : STRAIGHT;
            for (int move = first; move < first + BACK; move++) {
                int pose = field.driven(end, Lattice.oppositeOf(move));
                if (pose != NONE) {
                    int sum = cost + prices.ofMove(pose, move, end);
                    queue.lower(stateOf(pose, isBack), sum);
                    if (mayReverse) {
                        queue.lower(stateOf(pose, !isBack), sum + prices.cuspCost());
                    }
                }
            }
        }

        /** The way that costFromEnd has found just before, with the lower move where several cost the same. */
        Route trace(int from, int to, boolean mayReverse) {
            traced.restart(from);
            int left = Math.min(queue.costOf(stateOf(from, false)), queue.costOf(stateOf(from, true)));
            for (int step = 0; step < POSES && traced.lastPose() != to; step++) {
                int move = lowestMove(left, mayReverse);
                if (move == NONE) {
                    return traced;
                }
                int end = Lattice.ended(traced.lastPose(), move);
                traced.add(move, end);
                left = queue.costOf(stateOf(end, Lattice.isBack(move)));
            }
            return traced;
        }

        /**
         * The lowest move on a cheapest way from where the traced route ends. The search stops early and leaves
         * some costs too high, but never too low, so that a sum that comes out as what is left is always right.
         */
        private int lowestMove(int left, boolean mayReverse) {
            int pose = traced.lastPose();
            int moves = mayReverse ? MOVES : BACK;
            for (int move = 0; move < moves; move++) {
                int end = field.driven(pose, move);
                if (end != NONE) {
                    int cost = prices.ofMove(pose, move, end) + prices.turnaround(traced.lastMove(), move);
                    if (cost + queue.costOf(stateOf(end, Lattice.isBack(move))) == left) {
                        return move;
                    }
                }
            }
            return NONE;
        }
    }

    /** How far 0 to 7 arcs of one kind lead, from each heading. */
    private static final class Arcs {
        private static final int COUNTS = 8;

        private final int[] xs = new int[2 * HEADINGS * COUNTS];
        private final int[] ys = new int[2 * HEADINGS * COUNTS];

        Arcs() {
            for (int heading = 0; heading < HEADINGS; heading++) {
                fill(heading, -1);
                fill(heading, 1);
            }
        }

        private void fill(int heading, int turn) {
            int x = 0;
            int y = 0;
            for (int count = 0; count < COUNTS; count++) {
                int place = placeOf(heading, turn, count);
                if (place < xs.length && place < ys.length) {
                    xs[place] = x;
                    ys[place] = y;
                }
                int before = heading + turn * count;
                x += Lattice.stepX(before) + Lattice.stepX(before + turn);
                y += Lattice.stepY(before) + Lattice.stepY(before + turn);
            }
        }

        private static int placeOf(int heading, int turn, int count) {
            return ((heading & 7) * 2 + (turn > 0 ? 1 : 0)) * COUNTS + (count & 7);
        }

        int x(int heading, int turn, int count) {
            int place = placeOf(heading, turn, count);
            return place < xs.length ? xs[place] : 0;
        }

        int y(int heading, int turn, int count) {
            int place = placeOf(heading, turn, count);
            return place < ys.length ? ys[place] : 0;
        }
    }

    /** The word of two poses that was found last, if there was one. */
    private static final class Word {
        private static final int KINDS = 6;
        private static final int STRAIGHT_KINDS = 4;
        private static final int[] FIRST = {LEFT, RIGHT, LEFT, RIGHT, LEFT, RIGHT, NONE, NONE};
        private static final int[] SECOND = {STRAIGHT, STRAIGHT, STRAIGHT, STRAIGHT, RIGHT, LEFT, NONE, NONE};
        private static final int[] THIRD = {LEFT, RIGHT, RIGHT, LEFT, LEFT, RIGHT, NONE, NONE};
        private static final int MOST_ARCS = 7;
        private static final int MOST_STRAIGHTS = 15;

        private final Arcs arcs;
        private int kind = NONE;
        private int first;
        private int second;
        private int third;
        private int cost = FAR;

        Word(Arcs arcs) {
            this.arcs = arcs;
        }

        private static int firstMove(int kind) {
            return FIRST[kind & 7];
        }

        private static int secondMove(int kind) {
            return SECOND[kind & 7];
        }

        private static int thirdMove(int kind) {
            return THIRD[kind & 7];
        }

        int costOrNone() {
            return kind == NONE ? NONE : cost;
        }

        int tell(int what) {
            if (kind == NONE || what == 0) {
                return kind;
            }
            if (what == 1) {
                return first;
            }
            return what == 2 ? second : third;
        }

        int length() {
            return kind == NONE ? 0 : first + second + third;
        }

        int moveAt(int at) {
            if (at < first) {
                return firstMove(kind);
            }
            return at < first + second ? secondMove(kind) : thirdMove(kind);
        }

        /** Tries words in the order in which they win at the same cost, so that only a lesser cost replaces one. */
        void find(int from, int to) {
            kind = NONE;
            cost = FAR;
            for (int tried = 0; tried < KINDS; tried++) {
                for (int count = 0; count <= MOST_ARCS && count * Lattice.ARC_COST < cost; count++) {
                    if (tried < STRAIGHT_KINDS) {
                        tryStraights(tried, count, from, to);
                    } else {
                        tryArcs(tried, count, from, to);
                    }
                }
            }
        }

        /** The arcs of the third part follow from the heading, and what is left must be steps in one line. */
        private void tryStraights(int tried, int before, int from, int to) {
            int heading = Lattice.headingOf(from);
            int turn = Lattice.turnOf(firstMove(tried));
            int lastTurn = Lattice.turnOf(thirdMove(tried));
            int along = heading + turn * before;
            int behind = arcsBetween(along, Lattice.headingOf(to), lastTurn);
            int x = Lattice.xOf(to) - Lattice.xOf(from)
                    - arcs.x(heading, turn, before) - arcs.x(along, lastTurn, behind);
            int y = Lattice.yOf(to) - Lattice.yOf(from)
                    - arcs.y(heading, turn, before) - arcs.y(along, lastTurn, behind);
            int steps = Math.max(Math.abs(x), Math.abs(y));
            if (steps <= MOST_STRAIGHTS && x == steps * Lattice.stepX(along) && y == steps * Lattice.stepY(along)) {
                int stepsCost = steps * Lattice.stepsCost(along, STRAIGHT);
                offer(tried, before, steps, behind, (before + behind) * Lattice.ARC_COST + stepsCost);
            }
        }

        private void tryArcs(int tried, int before, int from, int to) {
            int heading = Lattice.headingOf(from);
            int turn = Lattice.turnOf(firstMove(tried));
            int along = heading + turn * before;
            int x = Lattice.xOf(to) - Lattice.xOf(from) - arcs.x(heading, turn, before);
            int y = Lattice.yOf(to) - Lattice.yOf(from) - arcs.y(heading, turn, before);
            for (int middle = 0; middle <= MOST_ARCS; middle++) {
                int last = along - turn * middle;
                int behind = arcsBetween(last, Lattice.headingOf(to), turn);
                if (x == arcs.x(along, -turn, middle) + arcs.x(last, turn, behind)
                        && y == arcs.y(along, -turn, middle) + arcs.y(last, turn, behind)) {
                    offer(tried, before, middle, behind, (before + middle + behind) * Lattice.ARC_COST);
                }
            }
        }

        private static int arcsBetween(int heading, int toHeading, int turn) {
            return turn * (toHeading - heading) & 7;
        }

        private void offer(int tried, int before, int middle, int behind, int sum) {
            if (sum < cost) {
                kind = tried;
                first = before;
                second = middle;
                third = behind;
                cost = sum;
            }
        }
    }

    /** A pose, and moves from there, with the poses that they lead to. */
    private static final class Route {
        /** Far above what a way or a shortened plan can have: each pose once, at fifteen times the cost. */
        private static final int MOST_MOVES = 65536;

        private int[] poses = new int[64];
        private int[] moves = new int[64];
        private int count;

        int count() {
            return count;
        }

        void restart(int pose) {
            count = 0;
            if (poses.length > 0) {
                poses[0] = pose;
            }
        }

        void cutAt(int at) {
            if (at >= 0 && at < count) {
                count = at;
            }
        }

        void add(int move, int end) {
            grow();
            if (count >= 0 && count < moves.length && count + 1 < poses.length) {
                poses[count + 1] = end;
                moves[count] = move;
                count++;
            }
        }

        private void grow() {
            if (count + 1 >= poses.length && poses.length <= MOST_MOVES) {
                poses = Arrays.copyOf(poses, 2 * poses.length);
            }
            if (count + 1 >= moves.length && moves.length <= MOST_MOVES) {
                moves = Arrays.copyOf(moves, 2 * moves.length);
            }
        }

        Route copied() {
            Route copy = new Route();
            copy.restart(poseAt(0));
            copy.addFrom(this, 0);
            return copy;
        }

        void addFrom(Route other, int at) {
            int end = other.count();
            for (int next = at; next < end; next++) {
                add(other.moveAt(next), other.poseAt(next + 1));
            }
        }

        int moveAt(int at) {
            return at >= 0 && at < count && at < moves.length ? moves[at] : NONE;
        }

        int poseAt(int at) {
            return at >= 0 && at <= count && at < poses.length ? poses[at] : NONE;
        }

        int lastMove() {
            return moveAt(count - 1);
        }

        int lastPose() {
            return poseAt(count);
        }

        boolean isCuspAt(int at) {
            return Lattice.isCusp(moveAt(at - 1), moveAt(at));
        }

        int cuspCount() {
            int cusps = 0;
            for (int at = 1; at < count; at++) {
                cusps += isCuspAt(at) ? 1 : 0;
            }
            return cusps;
        }

        int segmentCount() {
            int segments = 0;
            for (int at = 0; at < count; at++) {
                segments += moveAt(at - 1) != moveAt(at) ? 1 : 0;
            }
            return segments;
        }

        /** The first move of a segment; NONE if there are not so many. */
        int segmentStart(int segment) {
            int number = NONE;
            for (int at = 0; at < count; at++) {
                number += moveAt(at - 1) != moveAt(at) ? 1 : 0;
                if (number == segment) {
                    return at;
                }
            }
            return NONE;
        }

        int alikeFrom(int first) {
            int alike = 0;
            for (int at = first; at < count && moveAt(at) == moveAt(first); at++) {
                alike++;
            }
            return alike;
        }
    }

    /** Puts words in place of dearer stretches of a route. */
    private static final class Shortener {
        /** The moves of a plan can get more while it gets cheaper, but never so many. */
        private static final int MOST_ROUNDS = 1000000;

        private final Field field;
        private final Prices prices;
        private final Word word;
        private final Route rest = new Route();

        Shortener(Field field, Prices prices, Arcs arcs) {
            this.field = field;
            this.prices = prices;
            word = new Word(arcs);
        }

        /** Returns by how much the route costs less then. */
        int saveOn(Route route) {
            int before = prices.costOf(route);
            for (int at = 0; at < MOST_ROUNDS && at < route.count(); at++) {
                saveFrom(route, at);
            }
            return before - prices.costOf(route);
        }

        private void saveFrom(Route route, int from) {
            for (int to = route.count(); to >= from + 2; to--) {
                word.find(route.poseAt(from), route.poseAt(to));
                int cost = wordBetween(route, from, to);
                if (cost != NONE && cost < prices.between(route, from, to)) {
                    put(route, from, to);
                    return;
                }
            }
        }

        /** What the word costs in its place, with the cusps at both ends; NONE if it cannot be driven there. */
        private int wordBetween(Route route, int from, int to) {
            if (word.costOrNone() == NONE) {
                return NONE;
            }
            int cost = 0;
            int pose = route.poseAt(from);
            int last = route.moveAt(from - 1);
            for (int at = 0; at < word.length(); at++) {
                int move = word.moveAt(at);
                int end = field.driven(pose, move);
                if (end == NONE) {
                    return NONE;
                }
                cost += prices.ofMove(pose, move, end) + prices.turnaround(last, move);
                pose = end;
                last = move;
            }
            return cost + prices.turnaround(last, route.moveAt(to));
        }

        private void put(Route route, int from, int to) {
            rest.restart(route.poseAt(to));
            rest.addFrom(route, to);
            route.cutAt(from);
            for (int at = 0; at < word.length(); at++) {
                int move = word.moveAt(at);
                route.add(move, Lattice.ended(route.lastPose(), move));
            }
            route.addFrom(rest, 0);
        }
    }

    /** Squares of speeds along the route that was reckoned last. */
    private static final class Pace {
        private int straight = 100;
        private int arc = 25;
        private int faster = 2;
        private int slower = 3;
        private float[] squares = new float[64];

        void set(int newStraight, int newArc, int newFaster, int newSlower) {
            straight = newStraight;
            arc = newArc;
            faster = newFaster;
            slower = newSlower;
        }

        float squareAt(int at) {
            return at >= 0 && at < squares.length ? squares[at] : 0.0f;
        }

        private void put(int at, float square) {
            if (at >= 0 && at < squares.length) {
                squares[at] = square;
            }
        }

        void reckon(Route route) {
            int count = route.count();
            if (count >= squares.length) {
                squares = new float[2 * count];
            }
            for (int at = 0; at <= count; at++) {
                put(at, isRest(route, at) ? 0.0f : fromBefore(route, at));
            }
            for (int at = count - 1; at >= 0; at--) {
                put(at, lesser(squareAt(at), squareAt(at + 1) + change(route, at, slower)));
            }
        }

        float greatest(Route route) {
            float most = 0.0f;
            for (int at = 0; at <= route.count(); at++) {
                most = squareAt(at) > most ? squareAt(at) : most;
            }
            return most;
        }

        private static boolean isRest(Route route, int at) {
            return at == 0 || at == route.count() || route.isCuspAt(at);
        }

        private float fromBefore(Route route, int at) {
            float limit = lesser(limitOf(route.moveAt(at - 1)), limitOf(route.moveAt(at)));
            return lesser(limit, squareAt(at - 1) + change(route, at - 1, faster));
        }

        private float limitOf(int move) {
            return Lattice.isArc(move) ? (float) arc : (float) straight;
        }

        private static float change(Route route, int at, int rate) {
            return 2.0f * (float) rate * lengthOf(route.poseAt(at), route.moveAt(at));
        }

        private static float lengthOf(int pose, int move) {
            if (Lattice.isArc(move)) {
                return 1.0f + 1.4142135f;
            }
            return Lattice.isEven(Lattice.headingOf(pose)) ? 1.0f : 1.4142135f;
        }

        private static float lesser(float one, float other) {
            return one < other ? one : other;
        }
    }
}
