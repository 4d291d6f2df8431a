import java.math.BigInteger;

/** Each sentence about an hour and about looking ahead that names a boundary case. */
public final class EdgesOfHoursTest {
    private static final Due DUE = new Due("EdgesOfHoursTest");

    public static void main(String[] args) {
        waxBurnsFirst();
        asManyStepsAsItsPace();
        oneBehindTheOther();
        itStays();
        passesAWallOnce();
        blowsOutAtTheRim();
        blowsOutBehindWalls();
        afraidOrHaunting();
        marksBeginAgain();
        digitsChangePlaces();
        theHourIsGreater();
        passesHours();
        hoursOutsideAreRefused();
        foresees();
        foreseesAllThatIsThere();
        reachesNowAndThen();
        reachesWithoutATally();
        advisesTheLeastNumber();
        advisesForSoManyHours();
        advisesNone();
        meanOfNone();
        digestWraps();
        digestOfTheRim();
        DUE.end();
    }

    private static void waxBurnsFirst() {
        DUE.sentence("Each candle that burns has 1 wax less; without any left it burns no more.");
        GhostCandles house = new GhostCandles();
        house.tally(3, 0);
        house.candle(0, 0, 2);
        house.candle(8, 6, 60);
        house.candle(0, 6, 5);
        house.light(0, 6);
        house.come(3, 0, 1);
        house.come(3, 1, 1);
        house.send(1, 3, 0);
        DUE.is("its light holds for one hour", house.pass(1), 0);
        DUE.is("a lit goal", Houses.place(house, 1), "3 1");
        DUE.is("in the hour in which it burns down, both haunt", house.pass(1), 2);
        DUE.is("and one comes to its goal", Houses.place(house, 1), "3 0");
        isCandle(house, 0, 0, 0, 0);
        isCandle(house, 8, 6, 58, 1);
        isCandle(house, 0, 6, 5, 0);
        house.pass(1);
        isCandle(house, 0, 0, 0, 0);
    }

    private static void isCandle(GhostCandles house, int x, int y, int wax, int burns) {
        DUE.is("wax of " + x + " " + y, house.cell(x, y, 1), wax);
        DUE.is("it burns, " + x + " " + y, house.cell(x, y, 2), burns);
    }

    private static void asManyStepsAsItsPace() {
        DUE.sentence("Ghosts, by numbers, each takes as many steps as its pace, one behind the other.");
        for (int pace = 1; pace <= 3; pace++) {
            GhostCandles house = new GhostCandles();
            house.come(0, 0, pace);
            house.send(0, 8, 0);
            house.pass(1);
            DUE.is("behind an hour", Houses.place(house, 0), pace + " 0");
            house.pass(1);
            DUE.is("behind two", Houses.place(house, 0), 2 * pace + " 0");
            house.pass(7);
            DUE.is("at its goal, not beyond", Houses.place(house, 0), "8 0");
        }
    }

    private static void oneBehindTheOther() {
        DUE.sentence("Ghosts, by numbers, each takes as many steps as its pace, one behind the other.");
        // Its first step, through a wall, blows out the light that kept it from the shorter way.
        GhostCandles house = new GhostCandles();
        house.candle(2, 0, 60);
        house.wall(2, 0, 3);
        house.wall(2, 4, 2);
        house.wall(0, 0, 1);
        house.wall(0, 0, 2);
        house.come(0, 0, 3);
        DUE.is("round the light", house.send(0, 3, 1), 12);
        DUE.is("first through the wall", house.next(0), 1);
        house.pass(1);
        DUE.is("blown out", house.cell(2, 0, 2), 0);
        DUE.is("the next steps are chosen anew", Houses.place(house, 0), "2 1");
        DUE.is("one step is left", house.way(0, 3, 1), 1);
    }

    private static void itStays() {
        DUE.sentence("A step: if it is at its goal, or has no way there, it stays.");
        GhostCandles house = new GhostCandles();
        house.come(0, 0, 3);
        house.come(4, 3, 3);
        house.come(8, 6, 3);
        house.send(1, 4, 5);
        house.send(2, 0, 6);
        house.candle(6, 0, 60);
        house.candle(2, 0, 60);
        house.pass(1);
        DUE.is("at its goal at first", Houses.place(house, 0), "0 0");
        DUE.is("its goal is two of its three steps away", Houses.place(house, 1), "4 5");
        DUE.is("no way through the light", Houses.place(house, 2), "8 6");
        DUE.is("ghosts at their goals", house.foresee(1, 3), 2);
        house.light(6, 0);
        house.light(2, 0);
        house.pass(40);
        DUE.is("at its goal, and no further", Houses.place(house, 2), "0 6");
    }

    private static void passesAWallOnce() {
        DUE.sentence("If it passed a wall, it may not pass one any more");
        GhostCandles house = new GhostCandles();
        for (int y = 0; y < 7; y++) {
            house.wall(0, y, 1);
            house.wall(1, y, 1);
        }
        house.come(0, 0, 3);
        house.come(0, 6, 3);
        house.send(0, 2, 0);
        house.send(1, 1, 6);
        house.pass(1);
        DUE.is("no way through two walls: it stays", Houses.place(house, 0), "0 0");
        DUE.is("it may pass one still", house.ghost(0, 5), 1);
        DUE.is("through one wall", Houses.place(house, 1), "1 6");
        DUE.is("it may pass none", house.ghost(1, 5), 0);
        house.send(0, 1, 0);
        house.pass(1);
        house.send(0, 2, 0);
        DUE.is("no way", house.way(0, 2, 0), -1);
        house.pass(40);
        DUE.is("it stays between the walls", Houses.place(house, 0), "1 0");
        DUE.is("no way through a wall again", house.way(1, 0, 6), -1);
        house.rite(0);
        house.pass(1);
        DUE.is("it may again", Houses.place(house, 0), "2 0");
        DUE.is("once", house.ghost(0, 5), 0);
        GhostCandles free = new GhostCandles();
        free.come(0, 0, 3);
        free.send(0, 3, 0);
        free.wall(0, 1, 1);
        free.candle(1, 2, 60);
        Houses.wallsAround(free, 1, 2);
        free.pass(1);
        DUE.is("it passed none", free.ghost(0, 5), 1);
        DUE.is("nothing is blown out", free.cell(1, 2, 2), 1);
    }

    private static void blowsOutAtTheRim() {
        DUE.sentence("the candles in all neighbours of the cell to which it came (not in this cell "
                + "itself) burn no more (walls between do not matter)");
        // By the cell to which it comes and the one from which: all neighbours, and no other cell.
        int[][] steps = {{0, 0, 1, 0}, {8, 0, 8, 1}, {0, 6, 0, 5}, {8, 6, 7, 6}, {8, 3, 7, 3},
            {0, 3, 1, 3}, {4, 0, 4, 1}, {4, 6, 4, 5}, {4, 3, 3, 3}, {4, 3, 4, 2}};
        for (int[] step : steps) {
            for (int first = 0; first < 63; first += 10) {
                blowsOutNeighboursAlone(step, first);
            }
        }
    }

    /** Ten candles, each walled in, stand in the cells from the first on, and a ghost passes a wall. */
    private static void blowsOutNeighboursAlone(int[] step, int first) {
        GhostCandles house = new GhostCandles();
        int last = Math.min(first + 9, 62);
        Houses.buildAllWalls(house);
        for (int cell = first; cell <= last; cell++) {
            house.candle(cell % 9, cell / 9, 60);
        }
        if (house.cell(step[0], step[1], 2) == 1) {
            house.light(step[0], step[1]);
        }
        house.come(step[2], step[3], 3);
        DUE.is("the way through the wall", house.send(0, step[0], step[1]), 1);
        house.pass(1);
        DUE.is("it came", Houses.place(house, 0), step[0] + " " + step[1]);
        for (int cell = first; cell <= last; cell++) {
            int away = Math.abs(cell % 9 - step[0]) + Math.abs(cell / 9 - step[1]);
            String where = "candle of cell " + cell + " by " + step[0] + " " + step[1];
            DUE.is(where, house.cell(cell % 9, cell / 9, 2), away <= 1 ? 0 : 1);
            DUE.is("wax, " + where, house.cell(cell % 9, cell / 9, 1), away == 0 ? 60 : 59);
        }
    }

    private static void blowsOutBehindWalls() {
        DUE.sentence("(walls between do not matter)");
        for (int walls = 0; walls < 2; walls++) {
            GhostCandles house = new GhostCandles();
            house.candle(0, 0, 60);
            house.candle(1, 1, 60);
            house.wall(1, 0, 2);
            house.wall(0, 0, 1);
            house.wall(1, 1, 1);
            if (walls == 1) {
                house.wall(1, 0, 1);
            }
            house.come(0, 0, 1);
            house.send(0, 1, 0);
            house.pass(1);
            DUE.is("the cell from which it came", house.cell(0, 0, 2), 0);
            DUE.is("below, behind a wall", house.cell(1, 1, 2), 0);
            DUE.is("blown out, each can be lit", house.light(0, 0), true);
            DUE.is("blown out, each can be lit", house.light(1, 1), true);
            house.pass(1);
            DUE.is("only a step through a wall blows out", house.count(3), 2);
        }
    }

    private static void afraidOrHaunting() {
        DUE.sentence("Ghosts, by numbers: one in a lit cell is afraid. One in a dark cell with a tally "
                + "haunts: the tally has 1 mark more");
        GhostCandles house = new GhostCandles();
        house.tally(0, 0);
        house.tally(8, 6);
        house.candle(0, 6, 60);
        house.mirror(7, 6, true);
        house.come(0, 0, 1);
        house.come(8, 6, 1);
        house.come(1, 6, 1);
        house.come(7, 6, 1);
        house.come(8, 5, 1);
        DUE.is("one haunts", house.pass(1), 1);
        int[][] due = {{0, 1}, {1, 0}, {0, 1}, {0, 0}, {0, 0}};
        for (int ghost = 0; ghost < 5; ghost++) {
            DUE.is("haunted, ghost " + ghost, house.ghost(ghost, 6), due[ghost][0]);
            DUE.is("afraid, ghost " + ghost, house.ghost(ghost, 7), due[ghost][1]);
        }
        DUE.is("a tally in the light has no mark more", house.cell(0, 0, 1), 0);
        DUE.is("one in the dark has", house.cell(8, 6, 1), 1);
        DUE.is("a mirror has none", house.cell(7, 6, 1), 0);
    }

    private static void marksBeginAgain() {
        DUE.sentence("(behind 99 it has 0)");
        GhostCandles house = new GhostCandles();
        house.tally(8, 6);
        house.come(8, 6, 1);
        house.pass(27);
        DUE.is("the most", house.cell(8, 6, 1), 99);
        DUE.is("it haunts", house.pass(1), 1);
        DUE.is("and begins again", house.cell(8, 6, 1), 0);
        DUE.is("haunted, counted on", house.ghost(0, 6), 28);
        house.pass(1);
        DUE.is("1 again", house.cell(8, 6, 1), 1);
        house.pass(26);
        house.come(8, 6, 1);
        house.pass(1);
        DUE.is("99, then two in an hour", house.cell(8, 6, 1), 1);
    }

    private static void digitsChangePlaces() {
        DUE.sentence("if its marks can be divided by 13 then, their two digits change places (below 10 "
                + "the first digit is 0)");
        int[] due = {1, 2, 3, 4, 5, 6, 7, 8, 9, 10, 11, 12, 31, 32, 33, 34, 35, 36, 37, 38, 93, 94, 95,
            96, 97, 98, 99, 0, 1};
        GhostCandles house = new GhostCandles();
        house.tally(0, 6);
        house.come(0, 6, 2);
        for (int marks : due) {
            house.pass(1);
            DUE.is("marks", house.cell(0, 6, 1), marks);
        }
        GhostCandles many = new GhostCandles();
        many.tally(0, 6);
        for (int ghost = 0; ghost < 5; ghost++) {
            many.come(0, 6, 1);
        }
        many.pass(2);
        DUE.is("ten", many.cell(0, 6, 1), 10);
        many.pass(1);
        DUE.is("11, 12, 31, 32, 33 in one hour", many.cell(0, 6, 1), 33);
    }

    private static void theHourIsGreater() {
        DUE.sentence("The hour is 1 greater.");
        GhostCandles house = new GhostCandles();
        DUE.is("at first", house.count(0), 0);
        house.pass(1);
        DUE.is("behind one", house.count(0), 1);
        house.pass(40);
        DUE.is("behind 41", house.count(0), 41);
        house.foresee(40, 0);
        house.advise(8);
        house.tally(0, 0);
        house.reaches(0, 0, 99);
        DUE.is("looking ahead is no hour", house.count(0), 41);
    }

    private static void passesHours() {
        DUE.sentence("Returns how often ghosts haunt in them.");
        GhostCandles house = new GhostCandles();
        DUE.is("the fewest hours, empty", house.pass(1), 0);
        DUE.is("the most hours, empty", house.pass(40), 0);
        house.tally(0, 0);
        DUE.is("without ghosts", house.pass(40), 0);
        for (int ghost = 1; ghost <= 6; ghost++) {
            house.come(0, 0, 1);
            DUE.is("one hour", house.pass(1), ghost);
        }
        DUE.is("the most", house.pass(40), 6 * 40);
        house.candle(0, 1, 60);
        DUE.is("none in the light", house.pass(40), 0);
        DUE.is("none before it burns down", house.pass(19), 0);
        DUE.is("all behind", house.pass(1), 6);
    }

    private static void hoursOutsideAreRefused() {
        DUE.sentence("Throws `IllegalArgumentException` if hours is not 1 to 40");
        GhostCandles house = Houses.full();
        for (int hours : new int[] {Integer.MIN_VALUE, -40, -1, 0, 41, 256 + 1, Integer.MAX_VALUE}) {
            DUE.badArgument(house, "pass(" + hours + ")", () -> house.pass(hours));
            DUE.badArgument(house, "foresee(" + hours + ", 0)", () -> house.foresee(hours, 0));
            DUE.badArgument(house, "foresee(" + hours + ", -1)", () -> house.foresee(hours, -1));
            DUE.badArgument(house, "foresee(" + hours + ", 4)", () -> house.foresee(hours, 4));
        }
        DUE.sentence("Throws `IllegalArgumentException` if hours is not 1 to 8");
        for (int hours : new int[] {Integer.MIN_VALUE, -8, -1, 0, 9, 40, 256 + 1, Integer.MAX_VALUE}) {
            DUE.badArgument(house, "advise(" + hours + ")", () -> house.advise(hours));
        }
    }

    /** The candle in (4, 1) lights its row, and its column but for the last row: 14 cells. */
    private static GhostCandles houseToForesee() {
        GhostCandles house = new GhostCandles();
        house.tally(0, 0);
        house.come(0, 0, 1);
        house.come(0, 6, 1);
        house.send(1, 8, 6);
        house.candle(4, 1, 40);
        house.candle(8, 0, 1);
        house.wall(4, 5, 2);
        return house;
    }

    private static void foresees() {
        DUE.sentence("0 how often ghosts haunt in them, 1 candles that burn then, 2 cells that are lit "
                + "then, 3 ghosts that are at their goals then");
        GhostCandles house = houseToForesee();
        long before = house.digest();
        int[][] due = {{1, 1, 1, 14, 1}, {7, 7, 1, 14, 1}, {8, 8, 1, 14, 2}, {39, 39, 1, 14, 2},
            {40, 40, 0, 0, 2}};
        for (int[] then : due) {
            for (int what = 0; what <= 3; what++) {
                DUE.is("foresee(" + then[0] + ", " + what + ")", house.foresee(then[0], what),
                        then[1 + what]);
            }
        }
        DUE.is("nothing is changed", house.digest(), before);
        DUE.is("so it comes", house.pass(40), 40);
        DUE.is("candles that burn", house.count(3), 0);
        DUE.is("cells that are lit", house.count(7), 0);
        GhostCandles full = Houses.full();
        DUE.is("candles of a full house", full.foresee(40, 1), 10);
        DUE.is("cells of a full house", full.foresee(40, 2), 10);
        DUE.is("none haunts there", full.foresee(40, 0), 0);
        DUE.is("none is at its goal there", full.foresee(40, 3), 0);
        GhostCandles empty = new GhostCandles();
        for (int what = 0; what <= 3; what++) {
            DUE.is("foresee in an empty house", empty.foresee(1, what), 0);
        }
        for (int what : new int[] {-1, 4, Integer.MIN_VALUE, Integer.MAX_VALUE}) {
            DUE.outOfBounds(empty, "foresee(1, " + what + ")", () -> empty.foresee(1, what));
            DUE.outOfBounds(full, "foresee(40, " + what + ")", () -> full.foresee(40, what));
        }
    }

    private static void foreseesAllThatIsThere() {
        DUE.sentence("Returns this, if nothing is done (nothing is changed).");
        // Two ghosts are in the sixth cells of beams, behind a mirror; a third one is walled in.
        GhostCandles house = new GhostCandles();
        house.candle(0, 0, 60);
        house.mirror(2, 0, false);
        house.tally(2, 4);
        house.come(2, 4, 1);
        house.candle(4, 6, 60);
        house.mirror(6, 6, true);
        house.tally(6, 2);
        house.come(6, 2, 1);
        house.tally(8, 0);
        Houses.wallsAround(house, 8, 0);
        Houses.wallsAround(house, 8, 1);
        house.wall(8, 0, 2);
        house.come(8, 1, 3);
        house.send(2, 8, 0);
        DUE.is("the third one passes its wall", house.foresee(1, 0), 1);
        DUE.is("candles that burn", house.foresee(40, 1), 2);
        DUE.is("cells that are lit", house.foresee(1, 2), house.count(7));
        DUE.is("ghosts at their goals", house.foresee(1, 3), 3);
        DUE.is("when the light is gone", house.reaches(2, 4, 1), 60);
        DUE.is("when the light is gone", house.reaches(6, 2, 1), 60);
        DUE.is("the third one in time", house.reaches(8, 0, 12), 12);
        DUE.is("no candle had best be put out", house.advise(8), -1);
        house.light(4, 6);
        DUE.is("the mirror to the right", house.advise(8), 9 * 6 + 4);
        house.light(4, 6);
        house.light(0, 0);
        DUE.is("the mirror to the left", house.advise(8), 0);
        house.light(0, 0);
        DUE.is("so it comes", house.pass(40), 40);
        DUE.is("so it comes", house.pass(20), 20 + 2);
    }

    private static void reachesNowAndThen() {
        DUE.sentence("Returns behind how many hours the tally of the cell has just so many marks, if "
                + "nothing is done: 0 if it has now, at most 60; -1 if not by then");
        GhostCandles house = new GhostCandles();
        house.tally(8, 6);
        house.candle(8, 5, 60);
        house.come(8, 6, 1);
        long before = house.digest();
        DUE.is("now", house.reaches(8, 6, 0), 0);
        DUE.is("behind 60 hours", house.reaches(8, 6, 1), 60);
        DUE.is("behind 61 hours", house.reaches(8, 6, 2), -1);
        DUE.is("never", house.reaches(8, 6, 99), -1);
        DUE.is("nothing is changed", house.digest(), before);
        house.pass(1);
        DUE.is("behind 59 hours", house.reaches(8, 6, 1), 59);
        DUE.is("behind 60 hours, now", house.reaches(8, 6, 2), 60);
        DUE.is("behind 61 hours, now", house.reaches(8, 6, 3), -1);
        house.remove(8, 5);
        DUE.is("behind an hour", house.reaches(8, 6, 1), 1);
        DUE.is("the most marks", house.reaches(8, 6, 99), 27);
        house.pass(27);
        DUE.is("the most marks, now", house.reaches(8, 6, 99), 0);
        DUE.is("they begin again", house.reaches(8, 6, 0), 1);
        DUE.is("passed over, as 13 is 31", house.reaches(8, 6, 13), -1);
        DUE.is("98 again", house.reaches(8, 6, 98), 27);
        house.come(8, 6, 1);
        DUE.is("two in an hour", house.reaches(8, 6, 97), 13);
        DUE.is("passed over by two in an hour", house.reaches(8, 6, 0), -1);
    }

    private static void reachesWithoutATally() {
        DUE.sentence("or there is no tally (nothing is changed)");
        GhostCandles house = new GhostCandles();
        house.candle(0, 0, 7);
        house.mirror(8, 0, true);
        house.tally(8, 6);
        house.come(8, 6, 1);
        house.pass(2);
        house.remove(8, 6);
        long before = house.digest();
        for (int marks = 0; marks <= 99; marks++) {
            DUE.is("a candle, " + marks, house.reaches(0, 0, marks), -1);
        }
        DUE.is("a mirror", house.reaches(8, 0, 0), -1);
        DUE.is("nothing", house.reaches(4, 3, 0), -1);
        DUE.is("a tally that is gone, none", house.reaches(8, 6, 0), -1);
        DUE.is("a tally that is gone, its marks", house.reaches(8, 6, 2), -1);
        DUE.is("nothing is changed", house.digest(), before);
        DUE.badArgument(house, "no such marks and no tally", () -> house.reaches(0, 0, 100));
        DUE.badArgument(house, "no such marks and no tally", () -> house.reaches(0, 0, -1));
        DUE.outOfBounds(house, "no such cell and marks", () -> house.reaches(9, 0, 100));
    }

    private static void advisesTheLeastNumber() {
        DUE.sentence("Returns 9 * y + x of its cell, of several the least number");
        // Each of ten candles, which are out, would light the tally.
        GhostCandles house = new GhostCandles();
        house.tally(0, 6);
        house.come(0, 6, 1);
        for (int number = 0; number < 5; number++) {
            house.candle(5 - number, 6, 60);
            house.light(5 - number, 6);
            house.candle(0, 5 - number, 60);
            house.light(0, 5 - number);
        }
        int[] numbers = {9, 18, 27, 36, 45, 55, 56, 57, 58, 59};
        for (int number : numbers) {
            long before = house.digest();
            DUE.is("the least of those that are left", house.advise(8), number);
            DUE.is("the same in one hour", house.advise(1), number);
            DUE.is("nothing is changed", house.digest(), before);
            house.remove(number % 9, number / 9);
        }
        DUE.is("none is left", house.advise(8), -1);
        for (int cell = 0; cell < 63; cell += 62) {
            GhostCandles corner = new GhostCandles();
            corner.tally(4, cell / 9);
            corner.come(4, cell / 9, 1);
            corner.candle(cell % 9, cell / 9, 1);
            corner.light(cell % 9, cell / 9);
            corner.candle(4, 3, 1);
            corner.pass(1);
            DUE.is("with the least wax it is lit for no hour", corner.advise(1), -1);
            corner.remove(cell % 9, cell / 9);
            corner.candle(cell % 9, cell / 9, 2);
            corner.light(cell % 9, cell / 9);
            DUE.is("the first or the last cell", corner.advise(8), cell);
        }
    }

    private static void advisesForSoManyHours() {
        DUE.sentence("so that ghosts haunt the least often in so many hours");
        GhostCandles house = new GhostCandles();
        house.tally(8, 0);
        house.come(0, 0, 1);
        house.send(0, 8, 0);
        house.candle(8, 6, 60);
        house.light(8, 6);
        DUE.is("in 7 hours it does not come there", house.advise(7), -1);
        DUE.is("in 8 it does", house.advise(8), 62);
        GhostCandles out = new GhostCandles();
        out.tally(0, 0);
        out.come(0, 0, 1);
        out.send(0, 8, 0);
        out.candle(8, 6, 60);
        DUE.is("to put it out: it goes", out.advise(1), 62);
        out.light(8, 6);
        DUE.is("to light it: it would stay", out.advise(1), -1);
    }

    private static void advisesNone() {
        DUE.sentence("-1 if by none they haunt less often than if nothing is done (nothing is changed)");
        GhostCandles house = new GhostCandles();
        DUE.is("empty", house.advise(1), -1);
        house.candle(0, 6, 60);
        DUE.is("no ghosts", house.advise(8), -1);
        house.come(0, 0, 1);
        DUE.is("no tallies", house.advise(8), -1);
        house.tally(0, 0);
        long before = house.digest();
        DUE.is("to put it out they haunt more often", house.advise(8), -1);
        DUE.is("nothing is changed", house.digest(), before);
        house.candle(8, 6, 60);
        house.candle(8, 0, 60);
        house.light(8, 0);
        DUE.is("others do neither good nor harm", house.advise(8), -1);
        house.light(0, 6);
        DUE.is("to light it again", house.advise(8), 54);
        GhostCandles full = Houses.full();
        DUE.is("full, and none haunts", full.advise(8), -1);
        GhostCandles burnt = new GhostCandles();
        burnt.tally(0, 0);
        burnt.come(0, 0, 1);
        burnt.candle(1, 0, 1);
        burnt.candle(2, 0, 60);
        burnt.light(2, 0);
        burnt.pass(1);
        DUE.is("one without wax cannot be lit", burnt.advise(8), 2);
        burnt.remove(2, 0);
        DUE.is("one without wax alone", burnt.advise(8), -1);
    }

    private static void meanOfNone() {
        DUE.sentence("Returns the mean marks of tallies; 0 if there are none.");
        GhostCandles house = new GhostCandles();
        DUE.is("none", house.mean(), 0.0);
        house.candle(8, 0, 60);
        house.come(0, 0, 1);
        DUE.is("none, but others", house.mean(), 0.0);
        house.tally(0, 0);
        DUE.is("one without marks", house.mean(), 0.0);
        house.pass(1);
        DUE.is("one", house.mean(), 1.0);
        for (int x = 1; x < 6; x++) {
            house.tally(x, 0);
        }
        DUE.is("1 of six", house.mean(), 1.0 / 6.0);
        for (int x = 0; x < 6; x++) {
            house.remove(x, 0);
        }
        DUE.is("none any more", house.mean(), 0.0);
        GhostCandles full = new GhostCandles();
        for (int x = 0; x < 6; x++) {
            full.tally(x, 0);
            full.come(x, 0, 1);
        }
        full.pass(27);
        DUE.is("the most", full.mean(), 99.0);
        full.pass(1);
        DUE.is("begun again", full.mean(), 0.0);
    }

    private static void digestWraps() {
        DUE.sentence("A number d starts with 1009; for each of the following numbers x, d becomes d * "
                + "31 + x, which wraps around as a 64-bit integer");
        // 451 numbers, all 0 but the hour, which is the first one, and so is taken 450 times by 31.
        GhostCandles house = new GhostCandles();
        BigInteger base = BigInteger.valueOf(31);
        for (int hour = 0; hour <= 80; hour += 40) {
            BigInteger due = BigInteger.valueOf(1009).multiply(base)
                    .add(BigInteger.valueOf(hour)).multiply(base.pow(450));
            DUE.is("digest() at hour " + hour, house.digest(), due.longValue());
            house.pass(40);
        }
    }

    private static void digestOfTheRim() {
        DUE.sentence("then 1 if there is a wall to the right, else 0, and 1 if there is one below, else "
                + "0 (the rim is none)");
        GhostCandles house = new GhostCandles();
        BigInteger base = BigInteger.valueOf(31);
        // Without a wall the last two numbers are 0; with the last two walls they are so still.
        BigInteger due = BigInteger.valueOf(1009).multiply(base.pow(451));
        house.wall(8, 6, 0);
        house.wall(8, 6, 3);
        // Two walls are the seventh number; below (8, 5), and to the right of (7, 6).
        due = due.add(base.pow(444).multiply(BigInteger.TWO));
        due = due.add(base.pow(7 * 9)).add(base.pow(7 + 1));
        DUE.is("digest()", house.digest(), due.longValue());
    }
}
