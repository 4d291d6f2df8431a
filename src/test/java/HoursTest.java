/** Promises 18 to 23: hours go by, looking ahead, advice, the mean and the checksum. */
public final class HoursTest {
    private static final Due DUE = new Due("HoursTest");

    public static void main(String[] args) {
        promise18Pass();
        promise18CandlesBurnDown();
        promise18GhostsWalk();
        promise18PassingBlowsOut();
        promise18GhostsGoByNumbers();
        promise18Marks();
        promise19Foresee();
        promise20Reaches();
        promise21Advise();
        promise21AdviseToLight();
        promise22Mean();
        promise23Digest();
        DUE.end();
    }

    private static void promise18Pass() {
        GhostCandles house = new GhostCandles();
        for (int hours : new int[] {0, 41, -1, Integer.MIN_VALUE, Integer.MAX_VALUE}) {
            DUE.badArgument(house, "pass(" + hours + ")", () -> house.pass(hours));
        }
        DUE.is("pass(1)", house.pass(1), 0);
        DUE.is("pass(40)", house.pass(40), 0);
        DUE.is("the hour", house.count(0), 41);
        house.tally(0, 0);
        house.come(0, 0, 1);
        house.come(0, 0, 3);
        DUE.is("two haunt", house.pass(5), 10);
        DUE.is("the hour", house.count(0), 46);
        DUE.is("haunted in all", house.count(8), 10);
        house.candle(0, 1, 60);
        DUE.is("none haunts in the light", house.pass(5), 0);
        DUE.is("afraid", house.ghost(0, 7), 5);
        DUE.is("afraid", house.ghost(1, 7), 5);
    }

    private static void promise18CandlesBurnDown() {
        GhostCandles house = new GhostCandles();
        house.tally(4, 3);
        house.come(4, 3, 1);
        house.candle(4, 4, 3);
        DUE.is("hour 1, in the light", house.pass(1), 0);
        DUE.is("hour 2, in the light", house.pass(1), 0);
        DUE.is("wax", house.cell(4, 4, 1), 1);
        DUE.is("hour 3: it burns down before ghosts haunt", house.pass(1), 1);
        DUE.is("wax", house.cell(4, 4, 1), 0);
        DUE.is("candles that burn", house.count(3), 0);
        DUE.is("candles", house.count(2), 1);
        house.pass(1);
        DUE.is("wax never falls below 0", house.cell(4, 4, 1), 0);
    }

    private static void promise18GhostsWalk() {
        GhostCandles house = new GhostCandles();
        house.come(0, 0, 1);
        house.come(0, 0, 2);
        house.come(0, 0, 3);
        for (int ghost = 0; ghost < 3; ghost++) {
            house.send(ghost, 5, 0);
        }
        house.pass(1);
        isAt(house, 0, 1, 0);
        isAt(house, 1, 2, 0);
        isAt(house, 2, 3, 0);
        house.pass(1);
        isAt(house, 0, 2, 0);
        isAt(house, 1, 4, 0);
        isAt(house, 2, 5, 0);
        house.pass(1);
        isAt(house, 1, 5, 0);
        isAt(house, 2, 5, 0);
        DUE.is("ghosts in the goal", house.cell(5, 0, 4), 2);
        isAt(house, 0, 3, 0);
        house.candle(3, 0, 9);
        house.pass(3);
        isAt(house, 0, 3, 0);
        DUE.is("afraid on its way", house.ghost(0, 7), 3);
        DUE.is("it may pass still", house.ghost(0, 5), 1);
    }

    private static void promise18PassingBlowsOut() {
        GhostCandles house = new GhostCandles();
        // The ghost comes from the left through a wall to (4, 3); light comes to none of its cells.
        house.wall(4, 3, 3);
        house.wall(4, 3, 0);
        house.wall(4, 3, 1);
        house.wall(4, 3, 2);
        house.wall(5, 3, 0);
        house.wall(3, 2, 1);
        house.wall(3, 4, 1);
        house.wall(4, 5, 2);
        house.come(3, 3, 1);
        house.candle(4, 2, 20);
        house.candle(5, 3, 20);
        house.candle(4, 4, 20);
        house.candle(5, 4, 20);
        house.candle(4, 3, 1);
        house.light(4, 3);
        DUE.is("burning", house.count(3), 4);
        DUE.is("its goal is dark", house.send(0, 4, 3), 1);
        house.pass(1);
        isAt(house, 0, 4, 3);
        DUE.is("it may pass no more", house.ghost(0, 5), 0);
        DUE.is("above, behind a wall", house.cell(4, 2, 2), 0);
        DUE.is("to the right, behind a wall", house.cell(5, 3, 2), 0);
        DUE.is("below, behind a wall", house.cell(4, 4, 2), 0);
        DUE.is("aslant it burns on", house.cell(5, 4, 2), 1);
        DUE.is("blown out, it has its wax still", house.cell(4, 2, 1), 19);
        DUE.is("it can be lit again", house.light(4, 2), true);
        house.pass(1);
        DUE.is("one that stays blows nothing out", house.cell(4, 2, 2), 1);
    }

    private static void promise18GhostsGoByNumbers() {
        // The first ghost blows out the candle whose light keeps the second one from its goal.
        for (int first = 0; first < 2; first++) {
            GhostCandles house = new GhostCandles();
            house.candle(4, 0, 60);
            house.wall(4, 0, 3);
            house.wall(2, 0, 1);
            if (first == 0) {
                house.come(2, 0, 1);
                house.come(3, 3, 1);
            } else {
                house.come(3, 3, 1);
                house.come(2, 0, 1);
            }
            house.send(first, 3, 0);
            house.send(1 - first, 4, 3);
            DUE.is("its goal is lit", house.way(1 - first, 4, 3), -1);
            house.pass(1);
            isAt(house, first, 3, 0);
            isAt(house, 1 - first, first == 0 ? 4 : 3, 3);
            DUE.is("blown out", house.cell(4, 0, 2), 0);
        }
    }

    private static void promise18Marks() {
        GhostCandles house = new GhostCandles();
        house.tally(0, 0);
        house.come(0, 0, 1);
        house.pass(12);
        DUE.is("12", house.cell(0, 0, 1), 12);
        int[] due = {31, 32, 33, 34, 35, 36, 37, 38, 93, 94, 95, 96, 97, 98, 99, 0, 1};
        for (int marks : due) {
            house.pass(1);
            DUE.is("marks", house.cell(0, 0, 1), marks);
        }
        // From 13 marks on none but 31 to 39 and 93 to 99 come: 26 and 52 to 91 are behind swaps.
        house.come(0, 0, 1);
        house.pass(5);
        DUE.is("two ghosts in an hour", house.cell(0, 0, 1), 11);
        house.pass(1);
        DUE.is("12, then 13 which swaps", house.cell(0, 0, 1), 31);
    }

    private static void promise19Foresee() {
        GhostCandles house = new GhostCandles();
        house.tally(4, 0);
        house.candle(0, 6, 3);
        house.candle(8, 6, 10);
        house.come(0, 0, 2);
        house.come(8, 0, 1);
        house.send(0, 4, 0);
        house.send(1, 4, 1);
        house.wall(4, 0, 2);
        long before = house.digest();
        DUE.is("foresee(1, 0)", house.foresee(1, 0), 0);
        DUE.is("foresee(2, 0)", house.foresee(2, 0), 1);
        DUE.is("foresee(40, 0)", house.foresee(40, 0), 39);
        DUE.is("foresee(2, 1)", house.foresee(2, 1), 2);
        DUE.is("foresee(3, 1)", house.foresee(3, 1), 1);
        DUE.is("foresee(40, 1)", house.foresee(40, 1), 0);
        DUE.is("foresee(3, 2)", house.foresee(3, 2), 13);
        DUE.is("foresee(10, 2)", house.foresee(10, 2), 0);
        DUE.is("foresee(1, 3)", house.foresee(1, 3), 0);
        DUE.is("foresee(40, 3)", house.foresee(40, 3), 2);
        DUE.is("nothing is changed", house.digest(), before);
        for (int hours : new int[] {0, 41, -1, Integer.MIN_VALUE, Integer.MAX_VALUE}) {
            DUE.badArgument(house, "foresee(" + hours + ", 0)", () -> house.foresee(hours, 0));
            DUE.badArgument(house, "foresee(" + hours + ", 4)", () -> house.foresee(hours, 4));
        }
        DUE.outOfBounds(house, "foresee(1, -1)", () -> house.foresee(1, -1));
        DUE.outOfBounds(house, "foresee(40, 4)", () -> house.foresee(40, 4));
    }

    private static void promise20Reaches() {
        GhostCandles house = new GhostCandles();
        DUE.is("without a tally", house.reaches(0, 0, 0), -1);
        house.tally(0, 0);
        house.come(0, 0, 1);
        long before = house.digest();
        DUE.is("now", house.reaches(0, 0, 0), 0);
        DUE.is("12", house.reaches(0, 0, 12), 12);
        DUE.is("13 is never reached: it swaps", house.reaches(0, 0, 13), -1);
        DUE.is("31", house.reaches(0, 0, 31), 13);
        DUE.is("99", house.reaches(0, 0, 99), 27);
        DUE.is("nothing is changed", house.digest(), before);
        house.pass(1);
        DUE.is("0 again", house.reaches(0, 0, 0), 27);
        DUE.is("the hour does not matter", house.reaches(0, 0, 2), 1);
        house.tally(8, 6);
        DUE.is("another tally", house.reaches(8, 6, 1), -1);
        house.candle(8, 6 - 1, 60);
        house.candle(0, 1, 59);
        DUE.is("behind 60 hours at most", house.reaches(0, 0, 3), 60);
        DUE.is("not by then", house.reaches(0, 0, 4), -1);
        house.come(0, 0, 1);
        DUE.is("marks that two ghosts skip", house.reaches(0, 0, 2), -1);
        DUE.outOfBounds(house, "reaches(9, 0, 100)", () -> house.reaches(9, 0, 100));
        DUE.outOfBounds(house, "reaches(-1, 0, 0)", () -> house.reaches(-1, 0, 0));
        DUE.outOfBounds(house, "reaches(0, 7, 0)", () -> house.reaches(0, 7, 0));
        DUE.outOfBounds(house, "reaches(0, -1, 0)", () -> house.reaches(0, -1, 0));
        DUE.badArgument(house, "reaches(0, 0, -1)", () -> house.reaches(0, 0, -1));
        DUE.badArgument(house, "reaches(0, 0, 100)", () -> house.reaches(0, 0, 100));
        DUE.badArgument(house, "reaches(4, 4, 100) without a tally", () -> house.reaches(4, 4, 100));
    }

    private static void promise21Advise() {
        GhostCandles house = new GhostCandles();
        for (int hours : new int[] {0, 9, -1, Integer.MIN_VALUE, Integer.MAX_VALUE}) {
            DUE.badArgument(house, "advise(" + hours + ")", () -> house.advise(hours));
        }
        DUE.is("without candles", house.advise(8), -1);
        // To put out the candle at (5, 5) lets the ghost leave the tally for its goal, but lets the
        // other one haunt there: no gain. Without that other one it is the best.
        house.tally(0, 0);
        house.come(0, 0, 1);
        house.send(0, 5, 4);
        house.candle(5, 5, 60);
        DUE.is("put out, it goes", house.advise(1), 9 * 5 + 5);
        DUE.is("put out, it goes", house.advise(8), 9 * 5 + 5);
        house.tally(5, 4);
        house.come(5, 4, 1);
        DUE.is("put out, it goes, but the other one haunts", house.advise(1), -1);
        house.remove(5, 5);
        DUE.is("none left", house.advise(1), -1);
    }

    private static void promise21AdviseToLight() {
        GhostCandles house = new GhostCandles();
        house.tally(4, 3);
        house.come(4, 3, 1);
        house.candle(4, 5, 2);
        house.candle(6, 3, 60);
        house.candle(4, 1, 60);
        house.candle(0, 0, 1);
        house.light(4, 5);
        house.light(6, 3);
        house.light(4, 1);
        house.pass(1);
        long before = house.digest();
        DUE.is("of three as good, the least number", house.advise(1), 9 * 1 + 4);
        house.remove(4, 1);
        DUE.is("of two as good, the least number", house.advise(1), 9 * 3 + 6);
        house.remove(6, 3);
        DUE.is("the last one: its wax is for one hour with light", house.advise(8), 9 * 5 + 4);
        house.candle(4, 0, 60);
        house.light(4, 0);
        DUE.is("the better one", house.advise(8), 4);
        house.candle(6, 3, 60);
        house.light(6, 3);
        house.remove(4, 0);
        DUE.is("the better one, though its number is not the least", house.advise(2), 9 * 3 + 6);
        house.remove(6, 3);
        house.light(4, 5);
        house.pass(2);
        DUE.is("no wax, no advice", house.advise(8), -1);
        DUE.is("something was changed by these alone", house.digest() == before, false);
    }

    private static void promise22Mean() {
        GhostCandles house = new GhostCandles();
        DUE.is("mean without tallies", house.mean(), 0.0);
        house.candle(8, 6, 60);
        DUE.is("a candle's wax is no mark", house.mean(), 0.0);
        house.tally(0, 0);
        house.tally(2, 0);
        house.come(0, 0, 1);
        DUE.is("mean of no marks", house.mean(), 0.0);
        house.pass(5);
        DUE.is("mean of 5 and 0", house.mean(), 2.5);
        house.tally(4, 0);
        DUE.is("mean of 5, 0 and 0", house.mean(), 5.0 / 3.0);
        house.remove(0, 0);
        DUE.is("mean of 0 and 0", house.mean(), 0.0);
    }

    private static final int STEPS = 9;

    private static void promise23Digest() {
        long last = 0;
        for (int steps = 0; steps <= STEPS + 1; steps++) {
            GhostCandles house = houseBehind(steps);
            DUE.is("digest() behind " + steps + " steps", house.digest(), digestBehind(steps));
            DUE.is("digest() is another behind step " + steps, house.digest() == last, false);
            last = house.digest();
            DUE.is("digest() again", house.digest(), last);
        }
    }

    /** A full house behind more than all steps. */
    private static GhostCandles houseBehind(int steps) {
        if (steps > STEPS) {
            return Houses.full();
        }
        GhostCandles house = new GhostCandles();
        for (int step = 1; step <= steps; step++) {
            takeStep(house, step);
        }
        return house;
    }

    private static void takeStep(GhostCandles house, int step) {
        switch (step) {
            case 1: house.candle(1, 1, 9); break;
            case 2: house.light(1, 1); break;
            case 3: house.mirror(1, 2, true); break;
            case 4: house.tally(1, 3); break;
            case 5: house.wall(8, 6, 0); break;
            case 6: house.wall(8, 6, 3); break;
            case 7: house.come(1, 3, 2); break;
            case 8:
                house.come(8, 0, 3);
                house.send(1, 4, 4);
                break;
            default: house.pass(3); break;
        }
    }

    /** As promise 23 tells it, by the other calls; on several houses, as each has 512 calls. */
    private static long digestBehind(int steps) {
        long d = 1009;
        GhostCandles house = houseBehind(steps);
        for (int what = 0; what <= 9; what++) {
            d = d * 31 + house.count(what);
        }
        GhostCandles other = houseBehind(steps);
        for (int cell = 0; cell < 63; cell++) {
            int x = cell % 9;
            int y = cell / 9;
            for (int what = 0; what <= 4; what++) {
                d = d * 31 + house.cell(x, y, what);
            }
            d = d * 31 + (x < 8 && other.walled(x, y, 1) ? 1 : 0);
            d = d * 31 + (y < 6 && other.walled(x, y, 2) ? 1 : 0);
        }
        for (int ghost = 0; ghost < other.count(1); ghost++) {
            for (int what = 0; what <= 7; what++) {
                d = d * 31 + other.ghost(ghost, what);
            }
        }
        return d;
    }

    private static void isAt(GhostCandles house, int ghost, int x, int y) {
        DUE.is("x of ghost " + ghost, house.ghost(ghost, 0), x);
        DUE.is("y of ghost " + ghost, house.ghost(ghost, 1), y);
    }
}
