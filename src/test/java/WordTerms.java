import java.util.Arrays;

/** What the document says under "Terms" of words. */
final class WordTerms {
    private static final int NONE = Swervewright.NONE;

    private final Checks c;

    WordTerms(Checks c) {
        this.c = c;
    }

    void all() {
        kinds();
        counts();
        sixteenStraightOnes();
        noneInReverse();
        leastCost();
        inTheOpen();
        noWord();
        lowestWord();
        fewestMoves();
    }

    /** Looks at a word's cost, its number, and how many moves its parts have. */
    private void word(String what, Swervewright x, int[] p, int... want) {
        String told = what + ", word of " + Arrays.toString(p);
        c.due(told, x.word(p[0], p[1], p[2], p[3], p[4], p[5]), want[0]);
        for (int part = 0; part < 4; part++) {
            c.due(told + ", found(" + part + ")", x.found(part), want[part + 1]);
        }
    }

    private void none(String what, Swervewright x, int... p) {
        word(what, x, p, NONE, NONE, NONE, NONE, NONE);
    }

    /** Left in 0 leads by 2, -1, and then straight by 1, -1; to the right it is the same with the greater y. */
    private void kinds() {
        c.sentence("Terms", "The words are 0 left, straight, left; 1 right, straight, right; 2 left, straight, "
                + "right; 3 right, straight, left; 4 left, right, left; 5 right, left, right");
        Swervewright x = new Swervewright();
        word("left, straight, left", x, new int[] {4, 8, 0, 8, 4, 6}, 62, 0, 1, 1, 1);
        word("right, straight, right", x, new int[] {4, 8, 0, 8, 12, 2}, 62, 1, 1, 1, 1);
        word("left, straight, right", x, new int[] {4, 8, 0, 9, 5, 0}, 62, 2, 1, 1, 1);
        word("right, straight, left", x, new int[] {4, 8, 0, 9, 11, 0}, 62, 3, 1, 1, 1);
        // one arc, then seven eighths of a circle to the other side, and two more arcs
        word("left, right, left", x, new int[] {2, 2, 0, 0, 0, 4}, 240, 4, 1, 7, 2);
        word("right, left, right", x, new int[] {2, 13, 0, 0, 15, 4}, 240, 5, 1, 7, 2);
    }

    private void counts() {
        c.sentence("Terms", "of the first and the last one there are 0 to 7 moves each, of the one between 0 to 7, "
                + "or 0 to 15, if it is straight");
        Swervewright x = new Swervewright();
        word("none in any part", x, new int[] {8, 8, 5, 8, 8, 5}, 0, 0, 0, 0, 0);
        word("none in the first and the last part", x, new int[] {0, 8, 0, 15, 8, 0}, 150, 0, 0, 15, 0);
        word("none in the first and the second part", x, new int[] {4, 8, 0, 6, 7, 7}, 24, 0, 0, 0, 1);
        word("none in the third part", x, new int[] {9, 9, 0, 8, 3, 4}, 106, 0, 4, 1, 0);
        word("none in the second part", x, new int[] {9, 9, 0, 8, 8, 6}, 192, 3, 7, 0, 1);
        word("seven in the first part", x, new int[] {1, 4, 0, 0, 0, 3}, 326, 0, 7, 1, 6);
        word("seven in the third part", x, new int[] {1, 5, 0, 0, 0, 4}, 302, 0, 5, 1, 7);
        word("seven in the second part", x, new int[] {2, 2, 0, 0, 0, 4}, 240, 4, 1, 7, 2);
        word("seven in the third part of arcs", x, new int[] {1, 5, 0, 0, 0, 6}, 288, 4, 4, 1, 7);
        word("fifteen straight ones between arcs", x, new int[] {12, 3, 0, 0, 0, 6}, 390, 0, 4, 15, 6);
        word("fifteen in an odd heading", x, new int[] {0, 0, 1, 15, 15, 1}, 210, 0, 0, 15, 0);
    }

    /** Four lefts lead by 0, -6 to the heading 4, six from there by 3, 3 to 6: sixteen straight ones are wanted between. */
    private void sixteenStraightOnes() {
        c.sentence("Terms", "or 0 to 15, if it is straight");
        Swervewright x = new Swervewright();
        none("sixteen would be needed", x, 13, 3, 0, 0, 0, 6);
        word("fifteen are there", x, new int[] {13, 3, 0, 1, 0, 6}, 390, 0, 4, 15, 6);
        none("sixteen would be needed to the right", x, 13, 12, 0, 0, 15, 2);
        word("fifteen are there to the right", x, new int[] {13, 12, 0, 1, 15, 2}, 390, 1, 4, 15, 6);
    }

    private void noneInReverse() {
        c.sentence("Terms", "none in reverse.");
        Swervewright x = new Swervewright();
        word("one cell back is a long way round", x, new int[] {8, 8, 0, 7, 8, 0}, 202, 0, 4, 1, 4);
        word("back from an arc, too", x, new int[] {6, 7, 7, 4, 8, 0}, 168, 0, 0, 0, 7);
    }

    private void leastCost() {
        c.sentence("Terms", "The word of two poses is the one that leads from the first to the second with the "
                + "least cost of steps");
        Swervewright x = new Swervewright();
        word("straight on", x, new int[] {2, 8, 0, 12, 8, 0}, 100, 0, 0, 10, 0);
        word("odd steps cost more", x, new int[] {4, 8, 1, 9, 13, 1}, 70, 0, 0, 5, 0);
        // seven of each part of the word 0 lead there as well, for 434
        word("the word of the higher number", x, new int[] {4, 8, 0, 8, 12, 2}, 62, 1, 1, 1, 1);
        // six, one and seven lead there as well, for 336
        word("of one number", x, new int[] {2, 2, 0, 0, 0, 4}, 240, 4, 1, 7, 2);
        // one right, and then seven, lead there as well, for 216
        word("the fewer arcs", x, new int[] {8, 8, 0, 10, 9, 1}, 24, 1, 0, 0, 1);
    }

    private void inTheOpen() {
        c.sentence("Terms", "in the open: without an end of the field, blocked cells and margins");
        Swervewright x = new Swervewright();
        word("out of the field and back", x, new int[] {0, 0, 0, 0, 0, 4}, 348, 0, 6, 6, 6);
        Calls.wholeField(x);
        x.margin(5);
        x.vehicle(2, 2);
        word("all cells are blocked", x, new int[] {0, 0, 0, 0, 0, 4}, 348, 0, 6, 6, 6);
        word("straight on where all are blocked", x, new int[] {2, 8, 0, 12, 8, 0}, 100, 0, 0, 10, 0);
    }

    private void noWord() {
        c.sentence(11, "NONE without one.");
        Swervewright x = new Swervewright();
        none("on the spot to the next heading", x, 8, 8, 0, 8, 8, 1);
        none("on the spot to the heading before", x, 8, 8, 0, 8, 8, 7);
        none("far off", x, 8, 8, 0, 15, 1, 7);
        word("a word again", x, new int[] {8, 8, 0, 9, 8, 0}, 10, 0, 0, 1, 0);
    }

    /** In pairs of which several words have the same cost. */
    private void lowestWord() {
        c.sentence("Terms", "of several the lowest word");
        Swervewright x = new Swervewright();
        word("all six, without moves", x, new int[] {3, 3, 3, 3, 3, 3}, 0, 0, 0, 0, 0);
        word("0 to 3, straight on", x, new int[] {3, 3, 0, 8, 3, 0}, 50, 0, 0, 5, 0);
        word("all six, one left", x, new int[] {4, 8, 0, 6, 7, 7}, 24, 0, 0, 0, 1);
        word("1 to 5, one right", x, new int[] {4, 8, 0, 6, 9, 1}, 24, 1, 0, 0, 1);
        word("0 and 2, four lefts and one straight on", x, new int[] {9, 9, 0, 8, 3, 4}, 106, 0, 4, 1, 0);
        word("0 and 3, straight on and five lefts", x, new int[] {9, 9, 0, 8, 4, 3}, 130, 0, 0, 1, 5);
        word("3, 4 and 5, eight arcs", x, new int[] {9, 9, 0, 8, 8, 6}, 192, 3, 7, 0, 1);
    }

    /** Two words of one number that cost the same differ in the first part, whatever the poses. */
    private void fewestMoves() {
        c.sentence("Terms", "then that with the fewest moves of the first, then of the second, then of the third "
                + "part.");
        Swervewright x = new Swervewright();
        word("two lefts", x, new int[] {4, 8, 0, 7, 5, 6}, 48, 0, 0, 0, 2);
        word("two rights", x, new int[] {4, 8, 0, 7, 11, 2}, 48, 1, 0, 0, 2);
        word("seven lefts", x, new int[] {4, 8, 0, 2, 7, 1}, 168, 0, 0, 0, 7);
        word("seven rights", x, new int[] {4, 8, 0, 2, 9, 7}, 168, 1, 0, 0, 7);
        word("four lefts", x, new int[] {4, 8, 0, 4, 2, 4}, 96, 0, 0, 0, 4);
    }
}
