/** Runs of calls that many tests make. */
final class Calls {
    private Calls() {
    }

    static int polygon(Swervewright x, int... xy) {
        for (int i = 0; i < xy.length; i += 2) {
            x.corner(xy[i], xy[i + 1]);
        }
        return x.polygon();
    }

    /** A polygon that blocks one cell. */
    static int block(Swervewright x, int cellX, int cellY) {
        return polygon(x, cellX, cellY, cellX + 1, cellY, cellX + 1, cellY + 1, cellX, cellY + 1);
    }

    static int wholeField(Swervewright x) {
        return polygon(x, 0, 0, 16, 0, 16, 16, 0, 16);
    }

    /** The cells of a part of the field, a row of text for each y: # is blocked, a point is not. */
    static String picture(Swervewright x, int left, int low, int width, int height) {
        StringBuilder text = new StringBuilder();
        for (int y = low; y < low + height; y++) {
            text.append(y == low ? "" : " ");
            for (int cx = left; cx < left + width; cx++) {
                text.append(x.clearance(cx, y) == 0 ? '#' : '.');
            }
        }
        return text.toString();
    }

    /** Records a drive and makes a plan of it. */
    static int drive(Swervewright x, int fromX, int fromY, int heading, int... moves) {
        x.begin(fromX, fromY, heading);
        for (int move : moves) {
            x.drive(move);
        }
        return x.keep();
    }

    static int[] movesOf(Swervewright x, int plan) {
        int[] moves = new int[x.planOf(plan, 0)];
        for (int at = 0; at < moves.length; at++) {
            moves[at] = x.moveOf(plan, at);
        }
        return moves;
    }

    static int costOf(Swervewright x, int plan) {
        return x.planOf(plan, 1);
    }

    /** A pose as poseOf tells it. */
    static int pose(int x, int y, int heading) {
        return 1000 * heading + 16 * y + x;
    }

    /** A new object whose vehicle has a front and a behind of so many cells. */
    static Swervewright withVehicle(int front, int behind) {
        Swervewright x = new Swervewright();
        x.vehicle(front, behind);
        return x;
    }
}
