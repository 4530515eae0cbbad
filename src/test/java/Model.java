import java.util.ArrayList;
import java.util.Arrays;
import java.util.HashMap;
import java.util.List;
import java.util.Map;
import java.util.Optional;

/**
 * The document once more, slowly and as literally as can be: what Swervewright answers is held against this.
 * It shares no code and no way of reckoning with the class.
 */
final class Model {
    static final int[] DX = {1, 1, 0, -1, -1, -1, 0, 1};
    static final int[] DY = {0, 1, 1, 1, 0, -1, -1, -1};
    private static final int NEVER = 1_000_000_000;
    /** Found once and kept, since they hang on nothing but the arguments. */
    private static final Map<List<Integer>, List<int[]>> POSES_IN = new HashMap<>();
    private static final Map<List<Integer>, Optional<int[]>> WORDS = new HashMap<>();

    private final List<int[]> told = new ArrayList<>();
    private final List<List<int[]>> polygons = new ArrayList<>();
    private final List<Boolean> gone = new ArrayList<>();
    private final boolean[][] blockedNow = new boolean[16][16];
    private int front = 1;
    private int behind = 1;
    private int cusp = 20;
    private int margin = 0;
    private int[] found = {-1, -1, -1, -1};
    private final List<int[]> starts = new ArrayList<>();
    private final List<List<Integer>> plans = new ArrayList<>();
    private int[] driveStart = null;
    private List<Integer> driveMoves = null;
    private int straight = 100;
    private int arc = 25;
    private int faster = 2;
    private int slower = 3;

    // ---- field, vehicle

    int corner(int x, int y) {
        if (x < 0 || x > 16 || y < 0 || y > 16) {
            throw new IllegalArgumentException();
        }
        if (told.size() == 6) {
            throw new IllegalStateException();
        }
        told.add(new int[] {x, y});
        return told.size();
    }

    int polygon() {
        if (told.size() < 3 || polygons.size() == 8) {
            throw new IllegalStateException();
        }
        polygons.add(new ArrayList<>(told));
        gone.add(false);
        told.clear();
        findBlocked();
        return polygons.size() - 1;
    }

    int forget() {
        int n = told.size();
        told.clear();
        return n;
    }

    int takeAway(int number) {
        if (number < 0 || number >= polygons.size()) {
            throw new IndexOutOfBoundsException();
        }
        if (gone.get(number)) {
            throw new IllegalStateException();
        }
        int before = countBlocked();
        gone.set(number, true);
        findBlocked();
        return before - countBlocked();
    }

    private int countBlocked() {
        int n = 0;
        for (int x = 0; x < 16; x++) {
            for (int y = 0; y < 16; y++) {
                n += blocked(x, y) ? 1 : 0;
            }
        }
        return n;
    }

    void vehicle(int f, int b) {
        if (f < 0 || f > 2 || b < 0 || b > 2) {
            throw new IllegalArgumentException();
        }
        front = f;
        behind = b;
    }

    int cusp(int cost) {
        if (cost < 0 || cost > 100) {
            throw new IllegalArgumentException();
        }
        int was = cusp;
        cusp = cost;
        return was;
    }

    int margin(int cells) {
        if (cells < 0 || cells > 5) {
            throw new IllegalArgumentException();
        }
        int was = margin;
        margin = cells;
        return was;
    }

    private void findBlocked() {
        for (int x = 0; x < 16; x++) {
            for (int y = 0; y < 16; y++) {
                blockedNow[x][y] = isIn(x, y);
            }
        }
    }

    private boolean blocked(int x, int y) {
        return blockedNow[x][y];
    }

    private boolean isIn(int x, int y) {
        for (int p = 0; p < polygons.size(); p++) {
            if (!gone.get(p) && crossed(polygons.get(p), x, y) % 2 == 1) {
                return true;
            }
        }
        return false;
    }

    /** The x of a side at the middle's y is an integer over 2 * (y2 - y1); both are compared over that. */
    private static int crossed(List<int[]> corners, int x, int y) {
        int n = 0;
        for (int i = 0; i < corners.size(); i++) {
            int[] a = corners.get(i);
            int[] b = corners.get((i + 1) % corners.size());
            boolean between = a[1] < y + 0.5 && b[1] > y + 0.5 || b[1] < y + 0.5 && a[1] > y + 0.5;
            if (!between) {
                continue;
            }
            long over = 2L * (b[1] - a[1]);
            long sideX = a[0] * over + (2L * y + 1 - 2L * a[1]) * (b[0] - a[0]);
            long middleX = x * over + (b[1] - a[1]);
            if (over > 0 ? sideX > middleX : sideX < middleX) {
                n++;
            }
        }
        return n;
    }

    int clearance(int x, int y) {
        checkCell(x, y);
        int least = 16;
        for (int i = 0; i < 16; i++) {
            for (int j = 0; j < 16; j++) {
                if (blocked(i, j)) {
                    least = Math.min(least, Math.max(Math.abs(i - x), Math.abs(j - y)));
                }
            }
        }
        return least;
    }

    boolean isFree(int x, int y, int heading) {
        checkPose(x, y, heading);
        return free(new int[] {x, y, heading});
    }

    private boolean free(int[] pose) {
        for (int i = -behind; i <= front; i++) {
            int x = pose[0] + i * DX[pose[2]];
            int y = pose[1] + i * DY[pose[2]];
            if (x < 0 || y < 0 || x > 15 || y > 15 || blocked(x, y)) {
                return false;
            }
        }
        return true;
    }

    private static void checkCell(int x, int y) {
        if (x < 0 || x > 15 || y < 0 || y > 15) {
            throw new IndexOutOfBoundsException();
        }
    }

    private static void checkPose(int x, int y, int heading) {
        checkCell(x, y);
        if (heading < 0 || heading > 7) {
            throw new IndexOutOfBoundsException();
        }
    }

    // ---- moves

    /** All poses in a forward move from a pose: the beginning, those between, the end. */
    private static List<int[]> forward(int[] p, int move) {
        List<int[]> all = new ArrayList<>();
        all.add(p);
        int x = p[0] + DX[p[2]];
        int y = p[1] + DY[p[2]];
        all.add(new int[] {x, y, p[2]});
        if (move != 0) {
            int h = move == 1 ? (p[2] + 7) % 8 : (p[2] + 1) % 8;
            all.add(new int[] {x, y, h});
            all.add(new int[] {x + DX[h], y + DY[h], h});
        }
        return all;
    }

    /** All poses in a move; one in reverse is looked for among the forward ones that lead here. */
    private static List<int[]> posesIn(int[] p, int move) {
        List<Integer> key = List.of(p[0], p[1], p[2], move);
        if (!POSES_IN.containsKey(key)) {
            POSES_IN.put(key, findPosesIn(p, move));
        }
        return POSES_IN.get(key);
    }

    private static List<int[]> findPosesIn(int[] p, int move) {
        if (move < 3) {
            return forward(p, move);
        }
        for (int x = p[0] - 2; x <= p[0] + 2; x++) {
            for (int y = p[1] - 2; y <= p[1] + 2; y++) {
                for (int h = 0; h < 8; h++) {
                    List<int[]> there = forward(new int[] {x, y, h}, move - 3);
                    if (Arrays.equals(there.get(there.size() - 1), p)) {
                        List<int[]> back = new ArrayList<>();
                        for (int i = there.size() - 1; i >= 0; i--) {
                            back.add(there.get(i));
                        }
                        return back;
                    }
                }
            }
        }
        throw new AssertionError("no pose leads here");
    }

    static int[] end(int[] p, int move) {
        List<int[]> all = posesIn(p, move);
        return all.get(all.size() - 1);
    }

    private boolean drivable(int[] p, int move) {
        for (int[] q : posesIn(p, move)) {
            if (!free(q)) {
                return false;
            }
        }
        return true;
    }

    private static int steps(int[] p, int move) {
        int cost = 0;
        List<int[]> all = posesIn(p, move);
        for (int i = 1; i < all.size(); i++) {
            int[] a = all.get(i - 1);
            int[] b = all.get(i);
            if (a[0] != b[0] || a[1] != b[1]) {
                cost += a[2] % 2 == 0 ? 10 : 14;
            }
        }
        return cost;
    }

    private int cost(int[] p, int move) {
        int[] q = end(p, move);
        int clear = clearance(q[0], q[1]);
        return steps(p, move) + (clear < margin ? 5 * (margin - clear) : 0);
    }

    private static boolean turns(int a, int b) {
        return a >= 3 != b >= 3;
    }

    // ---- words

    private static final int[][] KINDS = {{1, 0, 1}, {2, 0, 2}, {1, 0, 2}, {2, 0, 1}, {1, 2, 1}, {2, 1, 2}};

    int word(int x, int y, int heading, int toX, int toY, int toHeading) {
        checkPose(x, y, heading);
        checkPose(toX, toY, toHeading);
        int[] w = wordOf(new int[] {x, y, heading}, new int[] {toX, toY, toHeading});
        if (w == null) {
            found = new int[] {-1, -1, -1, -1};
            return -1;
        }
        found = w;
        return w[4];
    }

    int found(int what) {
        if (what < 0 || what > 3) {
            throw new IllegalArgumentException();
        }
        return found[what];
    }

    private static int[] wordOf(int[] from, int[] to) {
        List<Integer> key = List.of(to[0] - from[0], to[1] - from[1], from[2], to[2]);
        if (!WORDS.containsKey(key)) {
            WORDS.put(key, Optional.ofNullable(findWord(from, to)));
        }
        return WORDS.get(key).orElse(null);
    }

    private static int[] findWord(int[] from, int[] to) {
        int[] best = null;
        for (int kind = 0; kind < 6; kind++) {
            int[] p = from;
            int costA = 0;
            for (int a = 0; a <= 7; a++) {
                int[] q = p;
                int costB = costA;
                for (int b = 0; b <= (kind < 4 ? 15 : 7); b++) {
                    int[] r = q;
                    int costC = costB;
                    for (int c = 0; c <= 7; c++) {
                        if (Arrays.equals(r, to) && (best == null || costC < best[4])) {
                            best = new int[] {kind, a, b, c, costC};
                        }
                        costC += steps(r, KINDS[kind][2]);
                        r = end(r, KINDS[kind][2]);
                    }
                    costB += steps(q, KINDS[kind][1]);
                    q = end(q, KINDS[kind][1]);
                }
                costA += steps(p, KINDS[kind][0]);
                p = end(p, KINDS[kind][0]);
            }
        }
        return best;
    }

    // ---- ways

    private static int number(int[] p) {
        return (p[2] * 16 + p[1]) * 16 + p[0];
    }

    private int[][] ends;
    private int[][] costs;

    private void layOut() {
        ends = new int[2048][6];
        costs = new int[2048][6];
        int[][] clear = new int[16][16];
        boolean[] free = new boolean[2048];
        for (int x = 0; x < 16; x++) {
            for (int y = 0; y < 16; y++) {
                clear[x][y] = clearance(x, y);
                for (int h = 0; h < 8; h++) {
                    free[(h * 16 + y) * 16 + x] = free(new int[] {x, y, h});
                }
            }
        }
        for (int n = 0; n < 2048; n++) {
            int[] p = {n % 16, n / 16 % 16, n / 256};
            for (int move = 0; move < 6; move++) {
                ends[n][move] = -1;
                boolean can = true;
                for (int[] q : posesIn(p, move)) {
                    can = can && q[0] >= 0 && q[1] >= 0 && q[0] < 16 && q[1] < 16 && free[number(q)];
                }
                if (can) {
                    int[] q = end(p, move);
                    ends[n][move] = number(q);
                    costs[n][move] = steps(p, move) + 5 * Math.max(0, margin - clear[q[0]][q[1]]);
                }
            }
        }
    }

    /** What is left to the goal from each pose, by the gear of the move that led there, until nothing gets less. */
    private int[][] left(int goal, boolean mayReverse) {
        layOut();
        int[][] left = new int[2048][2];
        for (int[] row : left) {
            Arrays.fill(row, NEVER);
        }
        left[goal][0] = 0;
        left[goal][1] = 0;
        boolean changed = true;
        while (changed) {
            changed = false;
            for (int n = 0; n < 2048; n++) {
                for (int gear = 0; gear < 2; gear++) {
                    for (int move = 0; move < (mayReverse ? 6 : 3); move++) {
                        if (ends[n][move] < 0) {
                            continue;
                        }
                        int sum = costs[n][move] + left[ends[n][move]][move / 3] + (gear != move / 3 ? cusp : 0);
                        if (sum < left[n][gear]) {
                            left[n][gear] = sum;
                            changed = true;
                        }
                    }
                }
            }
        }
        return left;
    }

    int cheapest(int x, int y, int heading, int toX, int toY, int toHeading, boolean mayReverse) {
        checkPose(x, y, heading);
        checkPose(toX, toY, toHeading);
        int from = number(new int[] {x, y, heading});
        int[][] left = left(number(new int[] {toX, toY, toHeading}), mayReverse);
        int least = Math.min(left[from][0], left[from][1]);
        return least >= NEVER ? -1 : least;
    }

    // ---- plans

    int plan(int x, int y, int heading, int toX, int toY, int toHeading, boolean mayReverse) {
        int least = cheapest(x, y, heading, toX, toY, toHeading, mayReverse);
        if (least == -1 || plans.size() == 12) {
            throw new IllegalStateException();
        }
        int goal = number(new int[] {toX, toY, toHeading});
        int[][] left = left(goal, mayReverse);
        List<Integer> moves = new ArrayList<>();
        int at = number(new int[] {x, y, heading});
        int last = -1;
        int rest = least;
        while (at != goal) {
            int next = -1;
            for (int move = 5; move >= 0; move--) {
                if (ends[at][move] >= 0 && (mayReverse || move < 3)) {
                    int turn = last >= 0 && turns(last, move) ? cusp : 0;
                    if (turn + costs[at][move] + left[ends[at][move]][move / 3] == rest) {
                        next = move;
                    }
                }
            }
            moves.add(next);
            at = ends[at][next];
            last = next;
            rest = left[at][next / 3];
        }
        starts.add(new int[] {x, y, heading});
        plans.add(moves);
        return plans.size() - 1;
    }

    void begin(int x, int y, int heading) {
        if (!isFree(x, y, heading)) {
            throw new IllegalStateException();
        }
        driveStart = new int[] {x, y, heading};
        driveMoves = new ArrayList<>();
    }

    int drive(int move) {
        if (move < 0 || move > 5) {
            throw new IndexOutOfBoundsException();
        }
        if (driveMoves == null || driveMoves.size() == 60) {
            throw new IllegalStateException();
        }
        List<int[]> poses = poses(driveStart, driveMoves);
        if (!drivable(poses.get(poses.size() - 1), move)) {
            throw new IllegalStateException();
        }
        driveMoves.add(move);
        return driveMoves.size();
    }

    int keep() {
        if (driveMoves == null || plans.size() == 12) {
            throw new IllegalStateException();
        }
        starts.add(driveStart);
        plans.add(driveMoves);
        driveMoves = null;
        return plans.size() - 1;
    }

    private static List<int[]> poses(int[] start, List<Integer> moves) {
        List<int[]> all = new ArrayList<>();
        all.add(start);
        for (int move : moves) {
            all.add(end(all.get(all.size() - 1), move));
        }
        return all;
    }

    private int total(int[] start, List<Integer> moves) {
        List<int[]> poses = poses(start, moves);
        int sum = 0;
        for (int i = 0; i < moves.size(); i++) {
            sum += cost(poses.get(i), moves.get(i));
            if (i > 0 && turns(moves.get(i - 1), moves.get(i))) {
                sum += cusp;
            }
        }
        return sum;
    }

    private boolean canDrive(int[] start, List<Integer> moves) {
        if (!free(start)) {
            return false;
        }
        List<int[]> poses = poses(start, moves);
        for (int i = 0; i < moves.size(); i++) {
            if (!drivable(poses.get(i), moves.get(i))) {
                return false;
            }
        }
        return true;
    }

    int shorten(int plan) {
        checkPlan(plan);
        int[] start = starts.get(plan);
        List<Integer> moves = plans.get(plan);
        if (!canDrive(start, moves)) {
            throw new IllegalStateException();
        }
        int before = total(start, moves);
        for (int i = 0; moves.size() - i > 0; i++) {
            List<int[]> poses = poses(start, moves);
            int now = total(start, moves);
            for (int j = moves.size(); j - i >= 2; j--) {
                int[] w = wordOf(poses.get(i), poses.get(j));
                if (w == null) {
                    continue;
                }
                List<Integer> middle = new ArrayList<>();
                for (int part = 0; part < 3; part++) {
                    for (int k = 0; k < w[part + 1]; k++) {
                        middle.add(KINDS[w[0]][part]);
                    }
                }
                if (!canDrive(poses.get(i), middle)) {
                    continue;
                }
                List<Integer> other = new ArrayList<>(moves.subList(0, i));
                other.addAll(middle);
                other.addAll(moves.subList(j, moves.size()));
                if (total(start, other) < now) {
                    moves = other;
                    break;
                }
            }
        }
        plans.set(plan, moves);
        return before - total(start, moves);
    }

    private void checkPlan(int plan) {
        if (plan < 0 || plan >= plans.size()) {
            throw new IndexOutOfBoundsException();
        }
    }

    int planOf(int plan, int what) {
        checkPlan(plan);
        List<Integer> moves = plans.get(plan);
        switch (what) {
            case 0:
                return moves.size();
            case 1:
                return total(starts.get(plan), moves);
            case 2:
                int cusps = 0;
                for (int i = 1; i < moves.size(); i++) {
                    cusps += turns(moves.get(i - 1), moves.get(i)) ? 1 : 0;
                }
                return cusps;
            case 3:
                return segments(moves).size();
            case 4:
                return canDrive(starts.get(plan), moves) ? 1 : 0;
            default:
                throw new IllegalArgumentException();
        }
    }

    private static List<int[]> segments(List<Integer> moves) {
        List<int[]> all = new ArrayList<>();
        for (int move : moves) {
            if (all.isEmpty() || all.get(all.size() - 1)[0] != move) {
                all.add(new int[] {move, 0});
            }
            all.get(all.size() - 1)[1]++;
        }
        return all;
    }

    int moveOf(int plan, int at) {
        checkPlan(plan);
        return plans.get(plan).get(at);
    }

    int poseOf(int plan, int at) {
        checkPlan(plan);
        int[] p = poses(starts.get(plan), plans.get(plan)).get(at);
        return 1000 * p[2] + 16 * p[1] + p[0];
    }

    int segment(int plan, int at) {
        checkPlan(plan);
        int[] s = segments(plans.get(plan)).get(at);
        return 100 * s[0] + s[1];
    }

    // ---- speeds

    void speeds(int newStraight, int newArc, int newFaster, int newSlower) {
        boolean fits = newStraight >= 1 && newStraight <= 10000 && newArc >= 1 && newArc <= 10000;
        if (!fits || newFaster < 1 || newFaster > 1000 || newSlower < 1 || newSlower > 1000) {
            throw new IllegalArgumentException();
        }
        straight = newStraight;
        arc = newArc;
        faster = newFaster;
        slower = newSlower;
    }

    private float[] squares(int plan) {
        List<Integer> moves = plans.get(plan);
        List<int[]> poses = poses(starts.get(plan), moves);
        int n = moves.size();
        float[] v = new float[n + 1];
        for (int i = 1; i < n; i++) {
            if (turns(moves.get(i - 1), moves.get(i))) {
                continue;
            }
            float gain = 2 * faster * length(poses.get(i - 1), moves.get(i - 1));
            v[i] = Math.min(Math.min(most(moves.get(i - 1)), most(moves.get(i))), v[i - 1] + gain);
        }
        for (int i = n - 1; i >= 1; i--) {
            float gain = 2 * slower * length(poses.get(i), moves.get(i));
            v[i] = Math.min(v[i], v[i + 1] + gain);
        }
        return v;
    }

    private float most(int move) {
        return move % 3 == 0 ? straight : arc;
    }

    private static float length(int[] p, int move) {
        float first = p[2] % 2 == 0 ? 1.0f : 1.4142135f;
        if (move % 3 == 0) {
            return first;
        }
        float second = p[2] % 2 == 0 ? 1.4142135f : 1.0f;
        return first + second;
    }

    float speed(int plan, int at) {
        checkPlan(plan);
        return squares(plan)[at];
    }

    int peak(int plan) {
        checkPlan(plan);
        float most = 0;
        for (float f : squares(plan)) {
            most = Math.max(most, f);
        }
        return (int) most;
    }
}
