/** Promises 11 to 14, sentence by sentence. */
final class WayEdges {
    private static final int NONE = Swervewright.NONE;

    /** A call with two poses. */
    interface TwoPoses {
        int answer(int x, int y, int heading, int toX, int toY, int toHeading);
    }

    private final Checks c;

    WayEdges(Checks c) {
        this.c = c;
    }

    void all() {
        promise11();
        promise12();
        foundOfTheLatest();
        ways(13);
        ways(14);
    }

    /** The six arguments, one less, least, greatest and one more; the call must refuse no pose that there is. */
    static void twoPoses(Checks c, int promise, TwoPoses call) {
        String[] sentences = {"`x`: the cell of the first one", "`y`: likewise", "`heading`: its heading",
            "`toX`: the cell of the second one", "`toY`: likewise", "`toHeading`: its heading"};
        for (int argument = 0; argument < 6; argument++) {
            c.sentence(promise, sentences[argument]);
            int most = argument % 3 == 2 ? 7 : 15;
            int[] wrong = {-1, most + 1, Integer.MIN_VALUE, Integer.MAX_VALUE};
            for (int value : wrong) {
                int[] p = withOne(argument, value);
                c.index("value " + value, () -> call.answer(p[0], p[1], p[2], p[3], p[4], p[5]));
            }
            int[] least = withOne(argument, 0);
            c.dueTrue("the least", call.answer(least[0], least[1], least[2], least[3], least[4], least[5]) >= NONE);
            int[] greatest = withOne(argument, most);
            c.dueTrue("the greatest",
                    call.answer(greatest[0], greatest[1], greatest[2], greatest[3], greatest[4], greatest[5]) >= NONE);
        }
        c.sentence(promise, "Throws `IndexOutOfBoundsException` if there is no such cell or heading");
        c.index("of all", () -> call.answer(16, 16, 8, 16, 16, 8));
        c.index("of the second one alone", () -> call.answer(0, 0, 0, -1, -1, -1));
    }

    private static int[] withOne(int argument, int value) {
        int[] p = {5, 5, 1, 5, 5, 1};
        p[argument] = value;
        return p;
    }

    private void promise11() {
        Swervewright x = new Swervewright();
        c.sentence(11, "Finds the word of two poses.");
        c.due("three straight ones", x.word(2, 2, 0, 5, 2, 0), 30);
        c.due("its number", x.found(0), 0);
        c.due("its moves", x.found(2), 3);
        c.sentence(11, "Returns what its steps cost; NONE without one.");
        c.due("no moves", x.word(2, 2, 0, 2, 2, 0), 0);
        c.due("a step in an even heading", x.word(2, 2, 0, 3, 2, 0), 10);
        c.due("a step in an odd heading", x.word(2, 2, 1, 3, 3, 1), 14);
        c.due("an arc", x.word(4, 8, 0, 6, 7, 7), 24);
        c.due("the longest way in the field", x.word(0, 0, 1, 15, 15, 1), 210);
        c.due("without one", x.word(8, 8, 0, 8, 8, 1), NONE);
        c.due("sixteen straight ones", x.word(13, 3, 0, 0, 0, 6), NONE);
        twoPoses(c, 11, (a, b, d, e, f, g) -> x.word(a, b, d, e, f, g));
    }

    private void promise12() {
        Swervewright x = new Swervewright();
        c.sentence(12, "Returns as told; NONE if none was found by the latest such call, or there was no call.");
        for (int what = 0; what <= 3; what++) {
            c.due("there was no call", x.found(what), NONE);
        }
        c.sentence(12, "Tells of the word that was found last by word().");
        x.word(4, 8, 0, 9, 11, 0);
        int[] want = {3, 1, 1, 1};
        for (int what = 0; what <= 3; what++) {
            c.due("right, straight, left", x.found(what), want[what]);
        }
        c.sentence(12, "`what`: 0 the word, 1 to 3 how many moves its parts have");
        x.word(12, 3, 0, 0, 0, 6);
        c.argument("one less", () -> x.found(-1));
        c.due("the least", x.found(0), 0);
        c.due("the first part", x.found(1), 4);
        c.due("the second part", x.found(2), 15);
        c.due("the greatest, the third part", x.found(3), 6);
        c.argument("one more", () -> x.found(4));
        c.sentence(12, "Throws `IllegalArgumentException` if what is out of range");
        c.argument("far out", () -> x.found(Integer.MAX_VALUE));
        c.argument("far out, below", () -> x.found(Integer.MIN_VALUE));
        c.due("nothing changed", x.found(2), 15);
    }

    private void foundOfTheLatest() {
        Swervewright x = new Swervewright();
        c.sentence(12, "NONE if none was found by the latest such call");
        x.word(4, 8, 0, 9, 11, 0);
        x.word(8, 8, 0, 8, 8, 1);
        for (int what = 0; what <= 3; what++) {
            c.due("none by the latest one", x.found(what), NONE);
        }
        x.word(3, 3, 3, 3, 3, 3);
        for (int what = 0; what <= 3; what++) {
            c.due("without moves", x.found(what), 0);
        }
        c.sentence(12, "found last by word()");
        x.word(4, 8, 0, 9, 11, 0);
        c.index("one that throws", () -> x.word(4, 8, 0, 16, 11, 0));
        c.due("is no latest one", x.found(0), 3);
        int plan = Calls.drive(x, 3, 8, 0, 0, 1, 2, 2, 1, 0);
        x.shorten(plan);
        c.due("words of shortening are not from word()", x.found(0), 3);
        c.due("nor their parts", x.found(1), 1);
    }

    private int way(int promise, Swervewright x, int[] p, boolean mayReverse) {
        return promise == 13 ? x.cheapest(p[0], p[1], p[2], p[3], p[4], p[5], mayReverse)
                : x.cheapestAnew(p[0], p[1], p[2], p[3], p[4], p[5], mayReverse);
    }

    private void ways(int promise) {
        Swervewright x = new Swervewright();
        c.sentence(promise, promise == 13 ? "Returns what the cheapest way between two poses costs."
                : "Returns the same, found by a search from the first pose on.");
        c.due("straight on", way(promise, x, new int[] {2, 8, 0, 9, 8, 0}, false), 70);
        c.due("a left one", way(promise, x, new int[] {4, 8, 0, 6, 7, 7}, false), 24);
        c.due("with a cusp", way(promise, x, new int[] {8, 8, 0, 9, 8, 7}, true), 58);
        c.sentence(promise, "Returns the cost; NONE if there is no way.");
        c.due("to itself", way(promise, x, new int[] {0, 0, 0, 0, 0, 0}, false), 0);
        c.due("to itself, in reverse", way(promise, x, new int[] {0, 0, 0, 0, 0, 0}, true), 0);
        c.due("to a pose that is not free", way(promise, x, new int[] {8, 8, 0, 15, 8, 0}, true), NONE);
        c.due("from one that is not free", way(promise, x, new int[] {0, 8, 0, 8, 8, 0}, true), NONE);
        c.due("from one to another one", way(promise, x, new int[] {0, 8, 0, 15, 8, 0}, true), NONE);
        c.sentence(promise, "`mayReverse`: whether it may have moves in reverse");
        c.due("it may", way(promise, x, new int[] {9, 2, 0, 2, 2, 0}, true), 70);
        c.due("it may not", way(promise, x, new int[] {9, 2, 0, 2, 2, 0}, false), NONE);
        twoPoses(c, promise, (a, b, d, e, f, g) -> way(promise, x, new int[] {a, b, d, e, f, g}, true));
        twoPoses(c, promise, (a, b, d, e, f, g) -> way(promise, x, new int[] {a, b, d, e, f, g}, false));
        dearestAndEdges(promise);
    }

    /** A vehicle of one cell in the corners of the field, and in a row of cells between walls. */
    private void dearestAndEdges(int promise) {
        c.sentence(promise, "Returns the cost; NONE if there is no way.");
        Swervewright x = Calls.withVehicle(0, 0);
        c.due("along an edge", way(promise, x, new int[] {0, 0, 0, 15, 0, 0}, false), 150);
        c.due("back along it", way(promise, x, new int[] {15, 0, 0, 0, 0, 0}, true), 150);
        c.due("from corner to corner", way(promise, x, new int[] {0, 0, 1, 15, 15, 1}, false), 210);
        c.due("in the corner, to another heading, forward", way(promise, x, new int[] {0, 0, 0, 0, 0, 1}, false), NONE);
        // across a corner of the field every move leads off it
        c.due("to the last pose of all", way(promise, x, new int[] {8, 8, 0, 15, 15, 7}, true), NONE);
        c.due("from it", way(promise, x, new int[] {15, 15, 7, 8, 8, 0}, true), NONE);
        c.due("across the first cell", way(promise, x, new int[] {8, 8, 0, 0, 0, 3}, true), NONE);
        c.due("from there", way(promise, x, new int[] {0, 0, 7, 8, 8, 0}, true), NONE);
        Calls.polygon(x, 0, 1, 16, 1, 16, 2, 0, 2);
        x.margin(5);
        c.due("beside a wall", way(promise, x, new int[] {0, 0, 0, 15, 0, 0}, false), 15 * (10 + 20));
        c.due("no way through a wall", way(promise, x, new int[] {0, 0, 0, 0, 15, 0}, true), NONE);
        c.due("no room to turn", way(promise, x, new int[] {8, 0, 0, 8, 0, 4}, true), NONE);
        x.takeAway(0);
        Calls.wholeField(x);
        c.due("all is blocked", way(promise, x, new int[] {8, 0, 0, 9, 0, 0}, true), NONE);
        c.due("but not to itself", way(promise, x, new int[] {8, 0, 0, 8, 0, 0}, true), 0);
    }
}
