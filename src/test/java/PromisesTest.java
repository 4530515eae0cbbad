import java.util.Arrays;

/** Each promise of the document by its number: ordinary inputs, the edges it names, and wrong inputs. */
public final class PromisesTest {
    private static final int MIN = Integer.MIN_VALUE;
    private static final int MAX = Integer.MAX_VALUE;
    private static final Checks C = new Checks("PromisesTest");

    public static void main(String[] args) {
        promise1();
        promise2();
        promise3();
        promise4();
        promise5();
        blockedCells();
        promise6();
        promise7();
        promise8();
        promise9();
        promise10();
        promise11();
        wordsOfAllKinds();
        promise12();
        promise13And14();
        cheapestAmongObstacles();
        promise15();
        lowestMovesFirst();
        longPlans();
        promise16();
        promise17();
        movesThatCannotBeDriven();
        promise18();
        promise19();
        shorteningWithCusps();
        shorteningByOne();
        shorteningRefusals();
        promise20();
        promise21();
        promise22();
        promise23();
        promise24();
        promise25();
        speedsWithArcs();
        promise26();
        constants();
        C.end();
    }

    // ---- field, vehicle

    private static void promise1() {
        Swervewright x = new Swervewright();
        C.index("1: takeAway on a new object", () -> x.takeAway(0));
        C.index("1: planOf on a new object", () -> x.planOf(0, 0));
        C.due("1: no corners", x.forget(), 0);
        C.due("1: nothing is blocked", x.clearance(0, 0), 16);
        C.due("1: nothing found", x.found(0), Swervewright.NONE);
        C.due("1: a cusp costs", x.cusp(20), 20);
        C.due("1: the margin", x.margin(0), 0);
        C.state("1: nothing is recorded", () -> x.drive(0));
        Swervewright other = new Swervewright();
        Calls.polygon(x, 0, 0, 16, 0, 16, 16, 0, 16);
        C.due("1: objects share nothing", other.clearance(8, 8), 16);
    }

    private static void promise2() {
        Swervewright x = new Swervewright();
        C.argument("2: x below", () -> x.corner(-1, 0));
        C.argument("2: x above", () -> x.corner(17, 0));
        C.argument("2: y below", () -> x.corner(0, -1));
        C.argument("2: y above", () -> x.corner(0, 17));
        C.argument("2: far out", () -> x.corner(MIN, MAX));
        C.due("2: the first one", x.corner(0, 0), 1);
        C.due("2: the ends", x.corner(16, 16), 2);
        C.due("2: the same again", x.corner(16, 16), 3);
        x.corner(0, 16);
        x.corner(1, 1);
        C.due("2: the sixth", x.corner(2, 2), 6);
        C.state("2: a seventh", () -> x.corner(3, 3));
        C.argument("2: out of range goes ahead of too many", () -> x.corner(17, 3));
        C.due("2: nothing changed", x.forget(), 6);
    }

    private static void promise3() {
        Swervewright x = new Swervewright();
        C.state("3: no corners", () -> x.polygon());
        x.corner(0, 0);
        x.corner(4, 0);
        C.state("3: two corners", () -> x.polygon());
        C.due("3: they are still told", x.corner(4, 4), 3);
        C.due("3: the first number", x.polygon(), 0);
        C.due("3: there are none then", x.forget(), 0);
        C.due("3: a cell is blocked", x.clearance(3, 1), 0);
        for (int number = 1; number < 8; number++) {
            C.due("3: numbers", Calls.polygon(x, 0, 0, 1, 0, 1, 1, 0, 1, 0, 0, 0, 1), number);
        }
        for (int corner = 0; corner < 3; corner++) {
            x.corner(8 + corner, 8 + corner * corner);
        }
        C.state("3: a ninth", () -> x.polygon());
        C.due("3: its corners are still told", x.forget(), 3);
        x.takeAway(0);
        C.state("3: nor in place of one taken away", () -> Calls.polygon(x, 8, 8, 10, 8, 10, 10));
        C.due("3: nothing is blocked by that", x.clearance(9, 8), 9);
    }

    private static void promise4() {
        Swervewright x = new Swervewright();
        C.due("4: none", x.forget(), 0);
        x.corner(1, 1);
        x.corner(2, 2);
        C.due("4: two", x.forget(), 2);
        C.due("4: none then", x.forget(), 0);
        C.due("4: they count anew", x.corner(5, 5), 1);
        x.corner(5, 8);
        x.corner(8, 8);
        x.polygon();
        C.due("4: what was forgotten is no corner", x.takeAway(0), 3);
    }

    private static void promise5() {
        Swervewright x = new Swervewright();
        Calls.polygon(x, 2, 2, 6, 2, 6, 6, 2, 6);
        Calls.polygon(x, 4, 4, 8, 4, 8, 8, 4, 8);
        Calls.polygon(x, 5, 5, 6, 5, 6, 6, 5, 6);
        C.index("5: below", () -> x.takeAway(-1));
        C.index("5: above", () -> x.takeAway(3));
        C.index("5: far out", () -> x.takeAway(MAX));
        C.due("5: one within others", x.takeAway(2), 0);
        C.due("5: what another blocks stays blocked", x.takeAway(0), 12);
        C.due("5: a cell of both", x.clearance(5, 5), 0);
        C.due("5: a cell of one", x.clearance(3, 3), 1);
        C.state("5: again", () -> x.takeAway(0));
        C.due("5: nothing changed", x.clearance(5, 5), 0);
        C.due("5: its number is not given again", Calls.polygon(x, 0, 0, 1, 1, 0, 1), 3);
        C.due("5: a polygon of no cell", x.takeAway(3), 0);
        C.due("5: the last one", x.takeAway(1), 16);
        C.due("5: nothing is blocked", x.clearance(5, 5), 16);
        C.dueIs("5: free again", x.isFree(5, 5, 0), true);
    }

    /** Middles on a side are not crossed there; a line that crosses itself blocks by odd and even. */
    private static void blockedCells() {
        Swervewright x = new Swervewright();
        Calls.polygon(x, 0, 0, 16, 0, 0, 16);
        int blocked = 0;
        for (int cx = 0; cx < 16; cx++) {
            for (int cy = 0; cy < 16; cy++) {
                boolean is = x.clearance(cx, cy) == 0;
                blocked += is ? 1 : 0;
                C.dueTrue("3: cell " + cx + ", " + cy + " below the long side", is == (cx + cy < 15));
            }
        }
        C.due("3: cells in all", blocked, 120);
        x.takeAway(0);
        Calls.polygon(x, 16, 0, 16, 16, 0, 16);
        C.due("3: a side through the middle to the left blocks", x.clearance(8, 7), 0);
        C.due("3: a cell left of it is not", x.clearance(7, 7), 1);
        x.takeAway(1);
        Calls.polygon(x, 2, 2, 14, 2, 2, 14, 14, 14);
        C.due("3: the upper half of an hourglass", x.clearance(8, 4), 0);
        C.due("3: the lower half", x.clearance(8, 12), 0);
        C.due("3: its side", x.clearance(3, 8), 2);
        x.takeAway(2);
        Calls.polygon(x, 0, 5, 16, 5, 3, 5, 9, 5);
        C.due("3: level sides alone block nothing", x.takeAway(3), 0);
        Calls.polygon(x, 1, 0, 3, 3, 0, 3);
        C.due("3: a slanted side left of a middle", x.clearance(0, 0), 1);
        C.due("3: and one right of it", x.clearance(1, 1), 0);
    }

    private static void promise6() {
        Swervewright x = new Swervewright();
        C.argument("6: front below", () -> x.vehicle(-1, 0));
        C.argument("6: front above", () -> x.vehicle(3, 0));
        C.argument("6: behind below", () -> x.vehicle(0, -1));
        C.argument("6: behind above", () -> x.vehicle(0, 3));
        C.argument("6: far out", () -> x.vehicle(MAX, MIN));
        C.dueIs("6: 1 in front at first", x.isFree(15, 5, 0), false);
        C.dueIs("6: 1 behind at first", x.isFree(0, 5, 0), false);
        C.dueIs("6: and no more", x.isFree(14, 5, 0) && x.isFree(1, 5, 0), true);
        x.vehicle(2, 0);
        C.dueIs("6: 2 in front", x.isFree(14, 5, 0), false);
        C.dueIs("6: 2 in front fit", x.isFree(13, 5, 0), true);
        C.dueIs("6: none behind", x.isFree(0, 5, 0), true);
        C.dueIs("6: front is where the heading leads", x.isFree(1, 5, 4), false);
        x.vehicle(0, 2);
        C.dueIs("6: 2 behind", x.isFree(1, 5, 0), false);
        C.dueIs("6: none in front", x.isFree(15, 5, 0), true);
        x.vehicle(0, 0);
        C.dueIs("6: the cell alone", x.isFree(0, 0, 7) && x.isFree(15, 15, 3), true);
    }

    private static void promise7() {
        Swervewright x = new Swervewright();
        int plan = Calls.drive(x, 8, 8, 0, 0, 3);
        C.due("7: at first", x.planOf(plan, 1), 40);
        C.due("7: what it was", x.cusp(100), 20);
        C.due("7: costs now", x.planOf(plan, 1), 120);
        C.argument("7: above", () -> x.cusp(101));
        C.argument("7: below", () -> x.cusp(-1));
        C.due("7: nothing changed", x.cusp(0), 100);
        C.due("7: none", x.planOf(plan, 1), 20);
        C.due("7: it is kept", x.cusp(0), 0);
    }

    private static void promise8() {
        Swervewright x = new Swervewright();
        Calls.polygon(x, 8, 0, 9, 0, 9, 1, 8, 1);
        int plan = Calls.drive(x, 8, 8, 6, 0, 0, 0, 0);
        C.due("8: none at first", x.planOf(plan, 1), 40);
        C.due("8: what it was", x.margin(5), 0);
        C.due("8: 5 for each cell too near, at ends alone", x.planOf(plan, 1), 45);
        C.argument("8: above", () -> x.margin(6));
        C.argument("8: below", () -> x.margin(-1));
        C.due("8: nothing changed", x.margin(4), 5);
        C.due("8: the margin itself is far enough", x.planOf(plan, 1), 40);
        int arcs = Calls.drive(x, 5, 4, 0, 1);
        C.due("8: an arc pays at its end, not between", x.planOf(arcs, 1), 24 + 5);
        x.margin(5);
        C.due("8: nearer", x.planOf(arcs, 1), 24 + 10);
        C.due("8: a way pays as well", x.cheapest(5, 4, 0, 7, 3, 7, false), 34);
        C.due("8: anew, too", x.cheapestAnew(5, 4, 0, 7, 3, 7, false), 34);
        C.due("8: words do not", x.word(5, 4, 0, 7, 3, 7), 24);
        int back = Calls.drive(x, 7, 3, 7, 4);
        C.due("8: in reverse the end is the other one", x.planOf(back, 1), 24 + 5 * 1);
    }

    private static void promise9() {
        Swervewright x = new Swervewright();
        C.due("9: none is blocked", x.clearance(15, 15), 16);
        Calls.polygon(x, 0, 0, 1, 0, 1, 1, 0, 1);
        C.due("9: blocked", x.clearance(0, 0), 0);
        C.due("9: beside", x.clearance(1, 0), 1);
        C.due("9: across", x.clearance(1, 1), 1);
        C.due("9: the greater difference", x.clearance(3, 7), 7);
        C.due("9: of both", x.clearance(7, 3), 7);
        C.due("9: the farthest", x.clearance(15, 15), 15);
        Calls.polygon(x, 15, 8, 16, 8, 16, 9, 15, 9);
        C.due("9: the nearest counts", x.clearance(12, 12), 4);
        C.index("9: x below", () -> x.clearance(-1, 0));
        C.index("9: x above", () -> x.clearance(16, 0));
        C.index("9: y below", () -> x.clearance(0, -1));
        C.index("9: y above", () -> x.clearance(0, 16));
        C.index("9: far out", () -> x.clearance(MIN, MAX));
    }

    private static void promise10() {
        Swervewright x = new Swervewright();
        Calls.polygon(x, 8, 8, 9, 8, 9, 9, 8, 9);
        int[][] before = {{7, 8, 0}, {7, 7, 1}, {8, 7, 2}, {9, 7, 3}, {9, 8, 4}, {9, 9, 5}, {8, 9, 6}, {7, 9, 7}};
        for (int[] p : before) {
            for (int heading = 0; heading < 8; heading++) {
                boolean isInLine = heading % 4 == p[2] % 4;
                C.dueIs("10: beside, heading " + heading, x.isFree(p[0], p[1], heading), !isInLine);
            }
        }
        C.dueIs("10: on it", x.isFree(8, 8, 3), false);
        x.vehicle(1, 0);
        for (int[] p : before) {
            C.dueIs("10: ahead of it", x.isFree(p[0], p[1], p[2]), false);
            C.dueIs("10: away from it", x.isFree(p[0], p[1], (p[2] + 4) % 8), true);
        }
        C.dueIs("10: the corner of the field", x.isFree(0, 0, 1), true);
        C.dueIs("10: out of it", x.isFree(0, 0, 3), false);
        C.index("10: x below", () -> x.isFree(-1, 0, 0));
        C.index("10: x above", () -> x.isFree(16, 0, 0));
        C.index("10: y below", () -> x.isFree(0, -1, 0));
        C.index("10: y above", () -> x.isFree(0, 16, 0));
        C.index("10: heading below", () -> x.isFree(0, 0, -1));
        C.index("10: heading above", () -> x.isFree(0, 0, 8));
    }

    // ---- words, ways

    private static void promise11() {
        Swervewright x = new Swervewright();
        Calls.polygon(x, 0, 0, 16, 0, 16, 16, 0, 16);
        C.due("11: to itself", x.word(2, 2, 3, 2, 2, 3), 0);
        C.due("11: straight, even", x.word(0, 9, 0, 15, 9, 0), 150);
        C.due("11: straight, odd", x.word(0, 0, 1, 15, 15, 1), 210);
        C.due("11: out of the field and back", x.word(0, 0, 0, 0, 0, 4), 348);
        C.due("11: none", x.word(0, 0, 0, 15, 7, 0), Swervewright.NONE);
        for (int at = 0; at < 6; at++) {
            int[] low = {1, 1, 1, 1, 1, 1};
            int[] high = {1, 1, 1, 1, 1, 1};
            low[at] = -1;
            high[at] = at % 3 == 2 ? 8 : 16;
            C.index("11: argument " + at + " below", () -> x.word(low[0], low[1], low[2], low[3], low[4], low[5]));
            C.index("11: argument " + at + " above", () -> x.word(high[0], high[1], high[2], high[3], high[4], high[5]));
        }
    }

    private static void word(Swervewright x, int[] p, int... want) {
        String what = "11: word of " + Arrays.toString(p);
        C.due(what, x.word(p[0], p[1], p[2], p[3], p[4], p[5]), want[0]);
        for (int part = 0; part < 4; part++) {
            C.due(what + ", found(" + part + ")", x.found(part), want[part + 1]);
        }
    }

    /** Left from heading 0 leads by 2, -1 to heading 7; straight there by 1, -1; right from 0 by 2, 1 to 1. */
    private static void wordsOfAllKinds() {
        Swervewright x = new Swervewright();
        word(x, new int[] {4, 8, 0, 4, 8, 0}, 0, 0, 0, 0, 0);
        word(x, new int[] {4, 8, 0, 9, 8, 0}, 50, 0, 0, 5, 0);
        word(x, new int[] {4, 8, 0, 6, 7, 7}, 24, 0, 0, 0, 1);
        word(x, new int[] {4, 8, 0, 6, 9, 1}, 24, 1, 0, 0, 1);
        word(x, new int[] {4, 8, 0, 8, 4, 6}, 62, 0, 1, 1, 1);
        word(x, new int[] {4, 8, 0, 8, 12, 2}, 62, 1, 1, 1, 1);
        word(x, new int[] {4, 8, 0, 9, 5, 0}, 62, 2, 1, 1, 1);
        word(x, new int[] {4, 8, 0, 9, 11, 0}, 62, 3, 1, 1, 1);
        arcsAlone();
    }

    /** An object for each heading and row, since one is used for 512 calls at most. */
    private static void arcsAlone() {
        int kinds = 0;
        for (int row = 0; row < 128; row++) {
            Swervewright x = new Swervewright();
            for (int toX = 0; toX < 16; toX++) {
                int cost = x.word(8, 8, 0, toX, row % 16, row / 16);
                int kind = x.found(0);
                kinds |= kind >= 4 ? 1 << kind : 0;
                if (kind >= 4) {
                    C.due("11: arcs alone cost 24 each", cost, 24 * (x.found(1) + x.found(2) + x.found(3)));
                }
            }
        }
        C.due("11: both kinds of arcs alone win somewhere", kinds, 16 + 32);
    }

    private static void promise12() {
        Swervewright x = new Swervewright();
        for (int what = 0; what < 4; what++) {
            C.due("12: no call", x.found(what), Swervewright.NONE);
        }
        x.word(5, 5, 0, 5, 5, 4);
        C.due("12: the word", x.found(0), 0);
        C.due("12: its first part", x.found(1), 6);
        C.due("12: its second part", x.found(2), 6);
        C.due("12: its third part", x.found(3), 6);
        C.index("12: a call that throws", () -> x.word(5, 5, 0, 5, 5, 8));
        C.due("12: changes nothing", x.found(1), 6);
        x.shorten(Calls.drive(x, 3, 8, 0, 0, 0, 0));
        C.due("12: nor does shortening", x.found(3), 6);
        x.word(0, 0, 0, 15, 7, 0);
        for (int what = 0; what < 4; what++) {
            C.due("12: none was found", x.found(what), Swervewright.NONE);
        }
        C.argument("12: below", () -> x.found(-1));
        C.argument("12: above", () -> x.found(4));
        x.word(2, 2, 0, 5, 2, 0);
        C.due("12: the latest", x.found(2), 3);
    }

    private static void way(Swervewright x, String what, int[] p, boolean mayReverse, int want) {
        C.due(what + ", cheapest", x.cheapest(p[0], p[1], p[2], p[3], p[4], p[5], mayReverse), want);
        C.due(what + ", anew", x.cheapestAnew(p[0], p[1], p[2], p[3], p[4], p[5], mayReverse), want);
    }

    private static void promise13And14() {
        Swervewright x = new Swervewright();
        way(x, "13: ahead", new int[] {2, 8, 0, 9, 8, 0}, false, 70);
        way(x, "13: odd", new int[] {2, 2, 1, 9, 9, 1}, false, 98);
        way(x, "13: an arc", new int[] {4, 8, 0, 6, 7, 7}, false, 24);
        way(x, "13: forward where reverse is allowed", new int[] {4, 8, 0, 6, 7, 7}, true, 24);
        way(x, "13: an arc in reverse", new int[] {6, 7, 7, 4, 8, 0}, true, 24);
        way(x, "13: backward along the edge, forward alone", new int[] {9, 1, 0, 2, 1, 0}, true, 70);
        way(x, "13: with a cusp", new int[] {8, 8, 0, 9, 8, 7}, true, 24 + 20 + 14);
        way(x, "13: to itself", new int[] {4, 8, 0, 4, 8, 0}, false, 0);
        way(x, "13: to itself, not free", new int[] {0, 0, 0, 0, 0, 0}, true, 0);
        way(x, "13: from what is not free", new int[] {0, 8, 0, 4, 8, 0}, true, Swervewright.NONE);
        way(x, "13: to what is not free", new int[] {4, 8, 0, 15, 8, 0}, true, Swervewright.NONE);
        for (int at = 0; at < 6; at++) {
            int[] a = {1, 1, 1, 1, 1, 1};
            a[at] = -1;
            C.index("13: below", () -> x.cheapest(a[0], a[1], a[2], a[3], a[4], a[5], true));
            C.index("14: below", () -> x.cheapestAnew(a[0], a[1], a[2], a[3], a[4], a[5], false));
            int[] b = {1, 1, 1, 1, 1, 1};
            b[at] = at % 3 == 2 ? 8 : 16;
            C.index("13: above", () -> x.cheapest(b[0], b[1], b[2], b[3], b[4], b[5], false));
            C.index("14: above", () -> x.cheapestAnew(b[0], b[1], b[2], b[3], b[4], b[5], true));
        }
    }

    private static void cheapestAmongObstacles() {
        Swervewright x = new Swervewright();
        Calls.polygon(x, 7, 2, 9, 2, 9, 14, 7, 14);
        way(x, "13: round a wall, forward", new int[] {3, 8, 0, 12, 8, 0}, false, Swervewright.NONE);
        way(x, "13: round a wall", new int[] {3, 8, 0, 12, 8, 0}, true, 262);
        x.margin(3);
        way(x, "13: that keeps from it", new int[] {3, 8, 0, 12, 8, 0}, true, 292);
        x.cusp(0);
        x.margin(0);
        int cheap = x.cheapest(3, 8, 0, 12, 8, 0, true);
        C.dueTrue("13: cusps cost", cheap <= 262 - 20);
        C.due("14: the same from the other end", x.cheapestAnew(3, 8, 0, 12, 8, 0, true), cheap);
        Calls.polygon(x, 7, 0, 9, 0, 9, 16, 7, 16);
        way(x, "13: no way through", new int[] {3, 8, 0, 12, 8, 0}, true, Swervewright.NONE);
        x.takeAway(1);
        x.takeAway(0);
        way(x, "13: free again", new int[] {3, 8, 0, 12, 8, 0}, false, 90);
        x.vehicle(0, 0);
        way(x, "13: into the corner in reverse", new int[] {5, 0, 0, 0, 0, 0}, true, 50);
        way(x, "13: out of it", new int[] {0, 0, 0, 5, 0, 0}, false, 50);
        way(x, "13: into the other corner", new int[] {10, 15, 0, 15, 15, 0}, false, 50);
    }

    // ---- plans

    private static void promise15() {
        Swervewright x = new Swervewright();
        C.due("15: the first number", x.plan(9, 2, 0, 2, 2, 0, true), 0);
        C.moves("15: in reverse", x, 0, 3, 3, 3, 3, 3, 3, 3);
        C.state("15: no way", () -> x.plan(0, 8, 0, 9, 8, 0, true));
        C.state("15: no way forward", () -> x.plan(14, 8, 0, 1, 8, 0, false));
        C.index("15: no such cell", () -> x.plan(16, 8, 0, 9, 8, 0, false));
        C.index("15: no such heading", () -> x.plan(1, 8, 0, 9, 8, 8, false));
        C.due("15: the next number", x.plan(0, 0, 0, 0, 0, 0, false), 1);
        C.moves("15: to itself", x, 1);
        for (int number = 2; number < 12; number++) {
            C.due("15: numbers", x.plan(2, 8, 0, 5, 8, 0, false), number);
        }
        C.moves("15: forward", x, 11, 0, 0, 0);
        C.state("15: a thirteenth", () -> x.plan(2, 8, 0, 5, 8, 0, false));
        C.state("15: nor one without moves", () -> x.plan(2, 8, 0, 2, 8, 0, false));
        C.index("15: no such cell goes ahead of too many", () -> x.plan(2, -1, 0, 5, 8, 0, false));
        C.index("15: there are no more", () -> x.planOf(12, 0));
    }

    private static void lowestMovesFirst() {
        Swervewright x = new Swervewright();
        C.moves("15: straight ahead of arcs", x, x.plan(3, 8, 0, 8, 6, 0, false), 0, 1, 2);
        C.moves("15: left ahead of right", x, x.plan(3, 8, 0, 7, 8, 0, false), 0, 0, 0, 0);
        C.moves("15: in reverse, lower first", x, x.plan(12, 8, 0, 7, 6, 0, true), 3, 4, 5);
        x.cusp(0);
        C.moves("15: straight ahead of reverse", x, x.plan(8, 8, 0, 8, 8, 1, true), 0, 4, 0);
        C.moves("15: an arc ahead of reverse", x, x.plan(8, 8, 0, 11, 10, 0, true), 2, 1, 3);
        enumerated(x, 8, 8, 0, 11, 6, 0);
        enumerated(x, 8, 8, 1, 8, 9, 1);
        enumerated(x, 8, 8, 1, 7, 8, 1);
        x.cusp(5);
        enumerated(x, 8, 8, 1, 8, 8, 2);
        x.cusp(20);
        enumerated(x, 8, 8, 0, 3, 10, 0);
        enumerated(x, 8, 8, 0, 9, 8, 7);
    }

    /** Eight lanes between walls with a gap at one end each: on ahead, through the gap, back in reverse, and so on. */
    private static void longPlans() {
        Swervewright x = new Swervewright();
        x.vehicle(0, 0);
        for (int wall = 0; wall < 7; wall++) {
            int left = wall % 2 == 0 ? 0 : 3;
            int y = 2 * wall + 1;
            Calls.polygon(x, left, y, left + 13, y, left + 13, y + 1, left, y + 1);
        }
        int plan = x.plan(0, 0, 0, 0, 14, 0, true);
        int count = 7 * 13 + 15;
        C.due("15: a long way", x.planOf(plan, 0), count);
        C.due("15: in even headings, but for two arcs a gap", x.planOf(plan, 1), (count - 14) * 10 + 14 * 24 + 7 * 20);
        C.due("15: as cheap as anew", x.cheapestAnew(0, 0, 0, 0, 14, 0, true), x.planOf(plan, 1));
        C.due("15: its cusps", x.planOf(plan, 2), 7);
        C.due("15: it can be driven", x.planOf(plan, 4), 1);
        C.due("22: its end", x.poseOf(plan, count), Calls.pose(0, 14, 0));
        C.dueFloat("25: far along", x.speed(plan, count - 1), 6.0f);
        C.dueFloat("25: at its end", x.speed(plan, count), 0.0f);
        C.due("19: the cheapest way cannot get shorter", x.shorten(plan), 0);
        for (int wall = 0; wall < 7; wall++) {
            x.takeAway(wall);
        }
        int before = x.planOf(plan, 1);
        int saved = x.shorten(plan);
        C.due("19: without walls it gets so", x.planOf(plan, 1), before - saved);
        C.dueTrue("19: by much", saved > before / 2);
        C.due("19: to the same end", x.poseOf(plan, x.planOf(plan, 0)), Calls.pose(0, 14, 0));
    }

    /** Less than 60 takes five moves at most: the first one in order of all rows of five or fewer that cost least. */
    private static void enumerated(Swervewright x, int... p) {
        int plan = x.plan(p[0], p[1], p[2], p[3], p[4], p[5], true);
        int cost = x.planOf(plan, 1);
        int cusp = x.cusp(0);
        x.cusp(cusp);
        int least = Integer.MAX_VALUE;
        int[] best = {};
        for (int length = 1; length <= 5; length++) {
            for (int n = 0; n < Math.pow(6, length); n++) {
                int[] moves = row(n, length);
                int sum = openCost(p, moves, cusp);
                if (sum < least || sum == least && Arrays.compare(moves, best) < 0) {
                    least = sum;
                    best = moves;
                }
            }
        }
        String what = "15: of all rows from and to " + Arrays.toString(p);
        C.dueTrue(what + " five moves are enough", least < 60);
        C.due(what + ", cost", cost, least);
        C.due(what + ", cheapest", x.cheapest(p[0], p[1], p[2], p[3], p[4], p[5], true), least);
        C.moves(what, x, plan, best);
    }

    private static int[] row(int number, int length) {
        int[] moves = new int[length];
        int rest = number;
        for (int i = length - 1; i >= 0; i--) {
            moves[i] = rest % 6;
            rest /= 6;
        }
        return moves;
    }

    private static int openCost(int[] p, int[] moves, int cusp) {
        int[] at = {p[0], p[1], p[2]};
        int cost = 0;
        for (int i = 0; i < moves.length; i++) {
            cost += moves[i] % 3 != 0 ? 24 : at[2] % 2 == 0 ? 10 : 14;
            cost += i > 0 && moves[i] >= 3 != moves[i - 1] >= 3 ? cusp : 0;
            at = Model.end(at, moves[i]);
        }
        return at[0] == p[3] && at[1] == p[4] && at[2] == p[5] ? cost : Integer.MAX_VALUE;
    }

    private static void promise16() {
        Swervewright x = new Swervewright();
        C.index("16: x above", () -> x.begin(16, 0, 0));
        C.index("16: y below", () -> x.begin(0, -1, 0));
        C.index("16: heading above", () -> x.begin(1, 1, 8));
        C.index("16: heading below", () -> x.begin(1, 1, -1));
        C.state("16: not free", () -> x.begin(0, 8, 0));
        C.state("16: so nothing is recorded", () -> x.keep());
        x.begin(3, 8, 0);
        x.drive(0);
        C.state("16: one that is not free", () -> x.begin(15, 8, 0));
        C.index("16: one that is not there", () -> x.begin(15, 16, 0));
        C.due("16: the drive goes on", x.drive(0), 2);
        x.begin(5, 5, 2);
        C.due("16: in place of it", x.drive(0), 1);
        x.keep();
        C.due("16: from there", x.poseOf(0, 0), Calls.pose(5, 5, 2));
    }

    private static void promise17() {
        Swervewright x = new Swervewright();
        C.state("17: nothing is recorded", () -> x.drive(0));
        C.index("17: no such move", () -> x.drive(6));
        C.index("17: no such move, below", () -> x.drive(-1));
        x.begin(1, 8, 0);
        C.state("17: off the field", () -> x.drive(3));
        for (int move = 1; move <= 60; move++) {
            C.due("17: how many", x.drive(move % 2 == 1 ? 0 : 3), move);
        }
        C.state("17: there are 60", () -> x.drive(0));
        C.index("17: no such move goes ahead of that", () -> x.drive(6));
        C.due("17: it can be kept", x.keep(), 0);
        C.due("17: all of it", x.planOf(0, 0), 60);
        C.due("17: its cusps", x.planOf(0, 2), 59);
        x.begin(8, 8, 0);
        x.drive(0);
        Calls.polygon(x, 8, 8, 9, 8, 9, 9, 8, 9);
        C.state("17: the beginning is not free any more", () -> x.drive(0));
        x.takeAway(0);
        C.due("17: and is again", x.drive(0), 2);
    }

    /** An arc needs the cell between with either heading, the beginning and the end. */
    private static void movesThatCannotBeDriven() {
        int[][] ends = {{9, 8, 0}, {10, 7, 7}, {10, 9, 1}, {7, 8, 0}, {6, 7, 1}, {6, 9, 7}};
        for (int move = 0; move < 6; move++) {
            Swervewright x = new Swervewright();
            int plan = Calls.drive(x, 8, 8, 0, move);
            int[] end = ends[move];
            C.due("17: where move " + move + " leads", x.poseOf(plan, 1), Calls.pose(end[0], end[1], end[2]));
        }
        drivable("between", 0, 0, 9, 8, 1, false);
        drivable("between, far out", 0, 0, 9, 9, 1, true);
        drivable("in front of the cell between, first heading", 1, 0, 10, 8, 1, false);
        drivable("in front of the cell between, second heading", 1, 0, 10, 7, 1, false);
        drivable("in front of the end", 1, 0, 11, 6, 1, false);
        drivable("in front of the cell between, the third heading", 1, 0, 9, 7, 1, true);
        drivable("behind the cell between, second heading", 0, 1, 8, 9, 1, false);
        drivable("behind the beginning", 0, 1, 7, 8, 1, false);
        drivable("two behind the beginning", 0, 1, 6, 8, 1, true);
        drivable("the cell between in reverse", 0, 0, 7, 8, 5, false);
        drivable("behind the cell between in reverse, first heading", 0, 1, 6, 8, 5, false);
        drivable("behind the cell between in reverse, second heading", 0, 1, 6, 9, 5, false);
        drivable("in front of the cell between in reverse, second heading", 1, 0, 8, 7, 5, false);
        drivable("behind the end in reverse", 0, 1, 5, 10, 5, false);
        drivable("beside all of it", 2, 2, 8, 6, 5, true);
    }

    private static void drivable(String what, int front, int behind, int cellX, int cellY, int move, boolean want) {
        Swervewright x = new Swervewright();
        x.vehicle(front, behind);
        x.begin(8, 8, 0);
        Calls.polygon(x, cellX, cellY, cellX + 1, cellY, cellX + 1, cellY + 1, cellX, cellY + 1);
        if (want) {
            C.due("17: " + what, x.drive(move), 1);
        } else {
            C.state("17: " + what, () -> x.drive(move));
        }
    }

    private static void promise18() {
        Swervewright x = new Swervewright();
        C.state("18: none is recorded", () -> x.keep());
        x.begin(3, 3, 0);
        C.due("18: without moves", x.keep(), 0);
        C.due("18: it has none", x.planOf(0, 0), 0);
        C.due("18: its pose", x.poseOf(0, 0), Calls.pose(3, 3, 0));
        C.state("18: it is recorded no more", () -> x.keep());
        C.state("18: nor driven", () -> x.drive(0));
        C.due("18: the next number", Calls.drive(x, 3, 3, 0, 0, 1), 1);
        Calls.drive(x, 5, 5, 0, 2);
        C.moves("18: plans do not change with later drives", x, 1, 0, 1);
        for (int number = 3; number < 12; number++) {
            C.due("18: numbers", Calls.drive(x, 3, 3, 0, 0), number);
        }
        x.begin(3, 3, 0);
        x.drive(0);
        C.state("18: a thirteenth", () -> x.keep());
        C.due("18: it is still recorded", x.drive(0), 2);
    }

    private static void promise19() {
        Swervewright x = new Swervewright();
        int plan = Calls.drive(x, 3, 8, 0, 0, 1, 2, 2, 1, 0);
        C.due("19: what it saves", x.shorten(plan), 16);
        C.moves("19: a straight one", x, plan, 0, 0, 0, 0, 0, 0, 0, 0, 0, 0);
        C.due("19: its end", x.poseOf(plan, 10), Calls.pose(13, 8, 0));
        C.due("19: nothing is left to save", x.shorten(plan), 0);
        int loop = Calls.drive(x, 5, 8, 0, 0, 3, 0, 0);
        C.due("19: a word without moves, or a straight one", x.shorten(loop), 60);
        C.moves("19: the end stays", x, loop, 0, 0);
        int round = Calls.drive(x, 5, 8, 0, 0, 0, 3, 3);
        C.due("19: from a pose to itself", x.shorten(round), 60);
        C.moves("19: no move at all", x, round);
        C.due("19: its pose", x.poseOf(round, 0), Calls.pose(5, 8, 0));
        int one = Calls.drive(x, 5, 8, 0, 1);
        C.due("19: one move", x.shorten(one), 0);
        C.index("19: no such plan", () -> x.shorten(4));
        C.index("19: no such plan, below", () -> x.shorten(-1));
    }

    /** Words have no moves in reverse, and cusps at both their ends count. */
    private static void shorteningWithCusps() {
        Swervewright x = new Swervewright();
        int back = Calls.drive(x, 12, 8, 0, 3, 3, 3, 3);
        C.due("19: reverse stays", x.shorten(back), 0);
        C.moves("19: as it was", x, back, 3, 3, 3, 3);
        // the first pose tries whole stretches first: 3 then 0 0 0 0 comes to three steps ahead
        int forth = Calls.drive(x, 8, 8, 0, 3, 0, 0, 0, 0);
        C.due("19: back and forth", x.shorten(forth), 10 + 20 + 40 - 30);
        C.moves("19: ahead alone", x, forth, 0, 0, 0);
        x.cusp(0);
        int end = Calls.drive(x, 8, 8, 0, 1, 4, 3);
        C.due("19: a loop within", x.shorten(end), 48);
        C.moves("19: what is behind it stays", x, end, 3);
        x.cusp(100);
        int late = Calls.drive(x, 12, 8, 0, 3, 0, 3, 0, 3);
        C.due("19: cusps go", x.shorten(late), 40 + 400);
        C.moves("19: one is left", x, late, 3);
        x.cusp(20);
        int goesOn = Calls.drive(x, 3, 8, 0, 1, 2, 2, 1, 3, 0, 0);
        x.shorten(goesOn);
        C.due("19: its end stays", x.poseOf(goesOn, x.planOf(goesOn, 0)), Calls.pose(12, 8, 0));
        C.due("19: straight", x.planOf(goesOn, 1), 90);
    }

    /** Six lefts and two straight moves cost 164; two arcs and two straight moves 68 and a cusp. */
    private static void shorteningByOne() {
        Swervewright x = new Swervewright();
        x.vehicle(0, 0);
        int plan = Calls.drive(x, 8, 8, 0, 4, 4, 0, 0);
        x.cusp(96);
        C.due("19: as much is not less", x.shorten(plan), 0);
        C.moves("19: so it stays", x, plan, 4, 4, 0, 0);
        x.cusp(97);
        C.due("19: one less is", x.shorten(plan), 1);
        C.moves("19: so it goes", x, plan, 1, 1, 1, 1, 1, 1, 0, 0);
    }

    private static void shorteningRefusals() {
        Swervewright x = new Swervewright();
        int plan = Calls.drive(x, 3, 8, 0, 0, 1, 2, 2, 1, 0);
        int wall = Calls.polygon(x, 8, 8, 9, 8, 9, 9, 8, 9);
        C.due("19: the word is in the way", x.planOf(plan, 4), 1);
        int saved = x.shorten(plan);
        C.dueTrue("19: it still can be driven", x.planOf(plan, 4) == 1 && saved < 16);
        Calls.polygon(x, 3, 8, 4, 8, 4, 9, 3, 9);
        int moves = x.planOf(plan, 0);
        C.state("19: it cannot be driven now", () -> x.shorten(plan));
        C.due("19: nothing changed", x.planOf(plan, 0), moves);
        x.takeAway(1);
        x.takeAway(wall);
        C.due("19: and can again", x.shorten(plan), 16 - saved);
        int still = x.plan(0, 0, 0, 0, 0, 0, false);
        C.state("19: a plan without moves whose pose is not free", () -> x.shorten(still));
        x.vehicle(0, 0);
        C.due("19: and is", x.shorten(still), 0);
    }

    private static void promise20() {
        Swervewright x = new Swervewright();
        int plan = Calls.drive(x, 5, 8, 0, 0, 0, 1, 4, 3, 3, 2);
        int[] want = {7, 152, 2, 5, 1};
        for (int what = 0; what < 5; what++) {
            C.due("20: planOf(" + what + ")", x.planOf(plan, what), want[what]);
        }
        int empty = Calls.drive(x, 5, 8, 0);
        int[] none = {0, 0, 0, 0, 1};
        for (int what = 0; what < 5; what++) {
            C.due("20: without moves, planOf(" + what + ")", x.planOf(empty, what), none[what]);
        }
        Calls.polygon(x, 5, 8, 6, 8, 6, 9, 5, 9);
        C.due("20: its pose is not free now", x.planOf(empty, 4), 0);
        C.due("20: nor can the other one be driven", x.planOf(plan, 4), 0);
        C.due("20: it costs as before", x.planOf(plan, 1), 152);
        x.margin(2);
        // the ends: 1, 2, 4 cells off, then 2, 1, 0, and 2 again
        C.due("20: and the margin now", x.planOf(plan, 1), 152 + 5 + 5 + 10);
        x.cusp(0);
        C.due("20: and cusps now", x.planOf(plan, 1), 172 - 40);
        C.argument("20: below", () -> x.planOf(plan, -1));
        C.argument("20: above", () -> x.planOf(plan, 5));
        C.index("20: no such plan", () -> x.planOf(2, 0));
        C.index("20: no such plan, below", () -> x.planOf(-1, 0));
        C.index("20: the plan goes ahead", () -> x.planOf(MAX, MIN));
    }

    private static void promise21() {
        Swervewright x = new Swervewright();
        C.index("21: no such plan", () -> x.moveOf(0, 0));
        int plan = Calls.drive(x, 8, 8, 0, 0, 1, 2, 3, 4, 5);
        for (int at = 0; at < 6; at++) {
            C.due("21: move " + at, x.moveOf(plan, at), at);
        }
        C.index("21: behind the last one", () -> x.moveOf(plan, 6));
        C.index("21: ahead of the first one", () -> x.moveOf(plan, -1));
        C.index("21: far out", () -> x.moveOf(plan, MIN));
        C.index("21: far out, above", () -> x.moveOf(plan, MAX));
        C.index("21: no such plan, below", () -> x.moveOf(-1, 0));
    }

    private static void promise22() {
        Swervewright x = new Swervewright();
        C.index("22: no such plan", () -> x.poseOf(0, 0));
        int plan = Calls.drive(x, 8, 8, 0, 0, 1, 2, 3, 4, 5);
        int[] want = {Calls.pose(8, 8, 0), Calls.pose(9, 8, 0), Calls.pose(11, 7, 7), Calls.pose(13, 6, 0),
            Calls.pose(12, 6, 0), Calls.pose(10, 5, 1), Calls.pose(8, 4, 0)};
        for (int at = 0; at < 7; at++) {
            C.due("22: pose " + at, x.poseOf(plan, at), want[at]);
        }
        C.index("22: behind the last one", () -> x.poseOf(plan, 7));
        C.index("22: ahead of the first one", () -> x.poseOf(plan, -1));
        C.index("22: far out", () -> x.poseOf(plan, MAX));
        C.index("22: no such plan, above", () -> x.poseOf(12, 0));
    }

    private static void promise23() {
        Swervewright x = new Swervewright();
        C.index("23: no such plan", () -> x.segment(0, 0));
        int plan = Calls.drive(x, 5, 8, 0, 0, 0, 0, 1, 2, 2, 5, 3, 3, 3);
        int[] want = {3, 101, 202, 501, 303};
        for (int at = 0; at < want.length; at++) {
            C.due("23: segment " + at, x.segment(plan, at), want[at]);
        }
        C.due("23: how many", x.planOf(plan, 3), want.length);
        C.index("23: not so many", () -> x.segment(plan, 5));
        C.index("23: below", () -> x.segment(plan, -1));
        C.index("23: far out", () -> x.segment(plan, MIN));
        int empty = Calls.drive(x, 5, 8, 0);
        C.index("23: without moves", () -> x.segment(empty, 0));
        C.index("23: without moves, below", () -> x.segment(empty, -1));
    }

    // ---- speeds

    private static void promise24() {
        Swervewright x = new Swervewright();
        int plan = Calls.drive(x, 2, 8, 0, 0, 0, 0, 0);
        int[][] wrong = {{0, 1, 1, 1}, {10001, 1, 1, 1}, {1, 0, 1, 1}, {1, 10001, 1, 1}, {1, 1, 0, 1}, {1, 1, 1001, 1},
            {1, 1, 1, 0}, {1, 1, 1, 1001}, {MIN, MAX, 1, 1}};
        for (int[] w : wrong) {
            C.argument("24: out of range " + Arrays.toString(w), () -> x.speeds(w[0], w[1], w[2], w[3]));
        }
        C.squares("24: nothing changed", x, plan, 0.0f, 4.0f, 8.0f, 6.0f, 0.0f);
        x.speeds(10000, 10000, 1000, 1000);
        C.squares("24: the greatest", x, plan, 0.0f, 2000.0f, 4000.0f, 2000.0f, 0.0f);
        x.speeds(1, 1, 1, 1);
        C.squares("24: the least", x, plan, 0.0f, 1.0f, 1.0f, 1.0f, 0.0f);
    }

    private static void promise25() {
        Swervewright x = new Swervewright();
        C.index("25: no such plan", () -> x.speed(0, 0));
        int even = Calls.drive(x, 1, 8, 0, 0, 0, 0, 0, 0, 0);
        C.squares("25: even", x, even, 0.0f, 4.0f, 8.0f, 12.0f, 12.0f, 6.0f, 0.0f);
        int odd = Calls.drive(x, 1, 1, 1, 0, 0, 0);
        C.squares("25: odd", x, odd, 0.0f, 4.0f * 1.4142135f, 6.0f * 1.4142135f, 0.0f);
        int cusps = Calls.drive(x, 8, 8, 0, 0, 0, 3, 3, 3);
        C.squares("25: at cusps", x, cusps, 0.0f, 4.0f, 0.0f, 4.0f, 6.0f, 0.0f);
        int empty = Calls.drive(x, 8, 8, 0);
        C.squares("25: without moves", x, empty, 0.0f);
        int one = Calls.drive(x, 8, 8, 0, 1);
        C.squares("25: one move", x, one, 0.0f, 0.0f);
        C.index("25: below", () -> x.speed(even, -1));
        C.index("25: far out", () -> x.speed(even, MAX));
        C.index("25: no such plan, below", () -> x.speed(-1, 0));
        x.speeds(9, 25, 2, 3);
        C.squares("25: no more than the greatest", x, even, 0.0f, 4.0f, 8.0f, 9.0f, 9.0f, 6.0f, 0.0f);
    }

    private static void speedsWithArcs() {
        Swervewright x = new Swervewright();
        float arc = 1.0f + 1.4142135f;
        x.speeds(100, 25, 2, 3);
        int plan = Calls.drive(x, 1, 8, 0, 0, 1, 2, 0, 0);
        C.squares("25: an arc is both its steps long", x, plan, 0.0f, 4.0f, 4.0f + 4.0f * arc, 12.0f, 6.0f, 0.0f);
        x.speeds(100, 3, 2, 3);
        C.squares("25: arcs are slower", x, plan, 0.0f, 3.0f, 3.0f, 3.0f, 6.0f, 0.0f);
        int back = Calls.drive(x, 12, 8, 1, 5, 3, 3, 4);
        x.speeds(100, 25, 2, 3);
        float first = 4.0f * arc;
        C.squares("25: in reverse", x, back, 0.0f, first, 4.0f + first, 6.0f * arc, 0.0f);
    }

    private static void promise26() {
        Swervewright x = new Swervewright();
        C.index("26: no such plan", () -> x.peak(0));
        int plan = Calls.drive(x, 1, 1, 1, 0, 0, 0);
        C.due("26: cut to an int", x.peak(plan), 8);
        int empty = Calls.drive(x, 8, 8, 0);
        C.due("26: without moves", x.peak(empty), 0);
        int even = Calls.drive(x, 1, 8, 0, 0, 0, 0, 0, 0, 0);
        C.due("26: the greatest", x.peak(even), 12);
        C.due("26: a plan read ahead of it does not matter", x.peak(plan), 8);
        x.speeds(5, 25, 2, 3);
        C.due("26: as told now", x.peak(even), 5);
        C.index("26: below", () -> x.peak(-1));
        C.index("26: above", () -> x.peak(3));
        C.index("26: far out", () -> x.peak(MAX));
    }

    private static void constants() {
        int[] moves = {Swervewright.STRAIGHT, Swervewright.LEFT, Swervewright.RIGHT, Swervewright.BACK,
            Swervewright.BACK_LEFT, Swervewright.BACK_RIGHT};
        for (int move = 0; move < 6; move++) {
            C.due("the constants", moves[move], move);
        }
        C.due("NONE", Swervewright.NONE, -1);
    }
}
