import java.math.BigInteger;

/** Each sentence about the house, its walls and what is told of it that names a boundary case. */
public final class EdgesOfTheHouseTest {
    private static final Due DUE = new Due("EdgesOfTheHouseTest");
    private static final int[][] CORNERS = {{0, 0}, {8, 0}, {0, 6}, {8, 6}};

    public static void main(String[] args) {
        aNewObject();
        callsOfAnObject();
        nineCellsWideSevenHigh();
        directionsAreNumbered();
        theRimIsAllAround();
        aWallNeedsANeighbour();
        aWallOrNone();
        wallReturnsWhetherThereIsOne();
        walledTellsWallAndRim();
        cellTellsItsThing();
        cellTellsWaxAndMarks();
        cellTellsFlameAndLight();
        cellTellsGhosts();
        countTellsAll();
        DUE.end();
    }

    private static void aNewObject() {
        DUE.sentence("Creates a house without walls, things and ghosts, at the hour 0.");
        GhostCandles house = new GhostCandles();
        for (int what = 0; what <= 9; what++) {
            DUE.is("count(" + what + ")", house.count(what), 0);
        }
        for (int cell = 0; cell < 63; cell++) {
            for (int what = 0; what <= 4; what++) {
                DUE.is("cell " + cell + ", what " + what, house.cell(cell % 9, cell / 9, what), 0);
            }
        }
        DUE.is("mean()", house.mean(), 0.0);
        DUE.is("advise(8)", house.advise(8), -1);
        for (int what = 0; what <= 3; what++) {
            DUE.is("foresee(40, " + what + ")", house.foresee(40, what), 0);
        }
        // All the numbers are 0: 10 of count(), 7 of each cell, and no ghost.
        BigInteger due = BigInteger.valueOf(31).pow(10 + 63 * 7).multiply(BigInteger.valueOf(1009));
        DUE.is("digest()", house.digest(), due.longValue());
    }

    private static void callsOfAnObject() {
        DUE.sentence("An object is used for at most 512 calls after it has been made");
        GhostCandles house = new GhostCandles();
        house.tally(8, 6);
        for (int number = 0; number < 6; number++) {
            house.come(8, 6, 3);
        }
        for (int call = 0; call < 501; call++) {
            DUE.is("pass(40)", house.pass(40), 6 * 40);
        }
        DUE.is("the hour", house.count(0), 501 * 40);
        DUE.is("how often ghosts haunted", house.count(8), 501 * 40 * 6);
        DUE.is("how often the last one did", house.ghost(5, 6), 501 * 40);
        // Marks go round in 28: 0 to 12, 31 to 38, 93 to 99; and 120240 is 4294 * 28 + 8.
        DUE.is("the 512th call", house.cell(8, 6, 1), 8);
    }

    private static void nineCellsWideSevenHigh() {
        DUE.sentence("It is 9 cells wide and 7 high; x is 0 to 8 to the right, y 0 to 6 downwards");
        for (int[] from : CORNERS) {
            GhostCandles house = new GhostCandles();
            DUE.is("come", house.come(from[0], from[1], 1), 0);
            for (int[] to : CORNERS) {
                int due = Math.abs(to[0] - from[0]) + Math.abs(to[1] - from[1]);
                DUE.is("way from corner to corner", house.way(0, to[0], to[1]), due);
            }
            DUE.is("candle", house.candle(from[0], from[1], 1), 1);
            DUE.is("remove", house.remove(from[0], from[1]), 1);
            DUE.is("mirror", house.mirror(from[0], from[1], false), 1);
            DUE.is("remove", house.remove(from[0], from[1]), 3);
            DUE.is("tally", house.tally(from[0], from[1]), 1);
            DUE.is("pass", house.pass(2), 2);
            DUE.is("reaches", house.reaches(from[0], from[1], 3), 1);
            DUE.is("cell", house.cell(from[0], from[1], 1), 2);
        }
    }

    private static void directionsAreNumbered() {
        DUE.sentence("Directions are 0 up (y less by 1), 1 right, 2 down, 3 left");
        for (int direction = 0; direction < 4; direction++) {
            GhostCandles house = new GhostCandles();
            int x = 4 + Houses.STEP_X[direction];
            int y = 3 + Houses.STEP_Y[direction];
            DUE.is("wall " + direction, house.wall(4, 3, direction), true);
            DUE.is("from the other side", house.walled(x, y, (direction + 2) % 4), true);
            for (int other = 0; other < 4; other++) {
                DUE.is("here, in " + other, house.walled(4, 3, other), other == direction);
                DUE.is("there, in " + other, house.walled(x, y, other), other == (direction + 2) % 4);
            }
            DUE.is("pulled down from the other side", house.wall(x, y, (direction + 2) % 4), false);
            house.come(4, 3, 1);
            house.send(0, x, y);
            DUE.is("next " + direction, house.next(0), direction);
        }
    }

    private static boolean isAtRim(int cell, int direction) {
        return !Houses.isInside(cell % 9 + Houses.STEP_X[direction], cell / 9 + Houses.STEP_Y[direction]);
    }

    private static void theRimIsAllAround() {
        DUE.sentence("all around it is its rim");
        GhostCandles house = new GhostCandles();
        int sides = 0;
        for (int cell = 0; cell < 63; cell++) {
            for (int direction = 0; direction < 4; direction++) {
                boolean walled = house.walled(cell % 9, cell / 9, direction);
                DUE.is("walled, cell " + cell + " " + direction, walled, isAtRim(cell, direction));
                sides += walled ? 1 : 0;
            }
        }
        DUE.is("sides of the rim", sides, 2 * 9 + 2 * 7);
        DUE.is("the rim is no wall", house.count(6), 0);
    }

    private static void aWallNeedsANeighbour() {
        DUE.sentence("Throws `IllegalStateException` if there is no such neighbour");
        GhostCandles empty = new GhostCandles();
        GhostCandles full = new GhostCandles();
        Houses.buildAllWalls(full);
        for (int cell = 0; cell < 63; cell++) {
            for (int direction = 0; direction < 4; direction++) {
                if (isAtRim(cell, direction)) {
                    int x = cell % 9;
                    int y = cell / 9;
                    int to = direction;
                    DUE.badState(empty, "wall at the rim, cell " + cell, () -> empty.wall(x, y, to));
                    DUE.badState(full, "wall at the rim, cell " + cell, () -> full.wall(x, y, to));
                }
            }
        }
        DUE.is("walls in an empty house", empty.count(6), 0);
        DUE.is("walls in a full house", full.count(6), 110);
        DUE.badArgument(empty, "no direction and no neighbour", () -> empty.wall(0, 0, 4));
        DUE.badArgument(empty, "no direction and no neighbour", () -> empty.wall(8, 6, -1));
        DUE.outOfBounds(empty, "no cell and no direction", () -> empty.wall(-1, 0, 4));
    }

    private static void aWallOrNone() {
        DUE.sentence("Between two neighbours there is a wall, or none (at first).");
        GhostCandles house = new GhostCandles();
        int walls = 0;
        for (int cell = 0; cell < 63; cell++) {
            for (int direction = 1; direction <= 2; direction++) {
                if (!isAtRim(cell, direction)) {
                    DUE.is("built", house.wall(cell % 9, cell / 9, direction), true);
                    walls++;
                }
            }
        }
        DUE.is("walls, as many as there can be", house.count(6), walls);
        DUE.is("8 in each of 7 rows, 6 in each of 9 columns", walls, 8 * 7 + 6 * 9);
        for (int cell = 0; cell < 63; cell++) {
            for (int direction = 0; direction <= 3; direction += 3) {
                if (!isAtRim(cell, direction)) {
                    DUE.is("pulled down", house.wall(cell % 9, cell / 9, direction), false);
                }
            }
        }
        DUE.is("walls", house.count(6), 0);
        DUE.is("digest() as new", house.digest(), new GhostCandles().digest());
    }

    private static void wallReturnsWhetherThereIsOne() {
        DUE.sentence("Returns whether there is a wall then.");
        for (int cell = 0; cell < 63; cell++) {
            GhostCandles house = new GhostCandles();
            int x = cell % 9;
            int y = cell / 9;
            for (int direction = 0; direction < 4; direction++) {
                if (!isAtRim(cell, direction)) {
                    DUE.is("the first time", house.wall(x, y, direction), true);
                    DUE.is("one wall", house.count(6), 1);
                    DUE.is("the second time", house.wall(x, y, direction), false);
                    DUE.is("none", house.count(6), 0);
                }
            }
        }
    }

    private static void walledTellsWallAndRim() {
        DUE.sentence("Returns whether a wall or the rim is beside the cell there.");
        GhostCandles house = new GhostCandles();
        Houses.buildAllWalls(house);
        for (int cell = 0; cell < 63; cell++) {
            for (int direction = 0; direction < 4; direction++) {
                DUE.is("walled on all sides", house.walled(cell % 9, cell / 9, direction), true);
            }
        }
        // The last wall of a row stands between 7 and 8 alone, and not before the next row.
        GhostCandles row = new GhostCandles();
        row.wall(7, 2, 1);
        DUE.is("walled(8, 2, 3)", row.walled(8, 2, 3), true);
        DUE.is("walled(8, 2, 0)", row.walled(8, 2, 0), false);
        DUE.is("walled(0, 3, 1)", row.walled(0, 3, 1), false);
        DUE.is("walled(1, 3, 3)", row.walled(1, 3, 3), false);
        DUE.is("walled(7, 1, 1)", row.walled(7, 1, 1), false);
        DUE.is("walled(7, 3, 1)", row.walled(7, 3, 1), false);
    }

    private static void cellTellsItsThing() {
        DUE.sentence("0 its thing, as remove() tells it, 0 without one");
        GhostCandles house = new GhostCandles();
        DUE.is("without one", house.cell(0, 0, 0), 0);
        house.come(0, 0, 1);
        DUE.is("with a ghost alone", house.cell(0, 0, 0), 0);
        house.candle(0, 0, 1);
        house.mirror(8, 0, true);
        house.mirror(0, 6, false);
        house.tally(8, 6);
        DUE.is("a candle", house.cell(0, 0, 0), 1);
        DUE.is("to the right", house.cell(8, 0, 0), 2);
        DUE.is("to the left", house.cell(0, 6, 0), 3);
        DUE.is("a tally", house.cell(8, 6, 0), 4);
        house.pass(1);
        DUE.is("a candle without wax", house.cell(0, 0, 0), 1);
        house.remove(0, 0);
        DUE.is("taken away", house.cell(0, 0, 0), 0);
    }

    private static void cellTellsWaxAndMarks() {
        DUE.sentence("1 the wax of its candle, or the marks of its tally, otherwise 0");
        GhostCandles house = new GhostCandles();
        house.candle(0, 0, 60);
        house.tally(8, 6);
        house.mirror(4, 3, true);
        house.come(8, 6, 1);
        DUE.is("the most wax", house.cell(0, 0, 1), 60);
        DUE.is("no marks", house.cell(8, 6, 1), 0);
        house.pass(27);
        DUE.is("wax", house.cell(0, 0, 1), 33);
        DUE.is("the most marks", house.cell(8, 6, 1), 99);
        DUE.is("a mirror", house.cell(4, 3, 1), 0);
        DUE.is("nothing", house.cell(4, 4, 1), 0);
        house.remove(0, 0);
        house.remove(8, 6);
        DUE.is("nothing, where wax was", house.cell(0, 0, 1), 0);
        DUE.is("nothing, where marks were", house.cell(8, 6, 1), 0);
        house.mirror(0, 0, true);
        house.tally(4, 4);
        house.candle(8, 6, 7);
        DUE.is("a mirror, where wax was", house.cell(0, 0, 1), 0);
        DUE.is("wax, where marks were", house.cell(8, 6, 1), 7);
    }

    private static void cellTellsFlameAndLight() {
        DUE.sentence("2 1 if a candle burns there, else 0, 3 1 if it is lit, else 0");
        GhostCandles house = new GhostCandles();
        house.candle(0, 0, 2);
        house.tally(1, 0);
        isCell(house, 0, 0, 1, 1);
        isCell(house, 1, 0, 0, 1);
        isCell(house, 6, 0, 0, 1);
        isCell(house, 7, 0, 0, 0);
        isCell(house, 8, 6, 0, 0);
        house.light(0, 0);
        isCell(house, 0, 0, 0, 0);
        isCell(house, 1, 0, 0, 0);
        house.candle(0, 1, 60);
        isCell(house, 0, 0, 0, 1);
        house.light(0, 0);
        house.light(0, 1);
        house.pass(1);
        isCell(house, 0, 0, 1, 1);
        house.pass(1);
        isCell(house, 0, 0, 0, 0);
    }

    private static void isCell(GhostCandles house, int x, int y, int burns, int lit) {
        DUE.is("cell(" + x + ", " + y + ", 2)", house.cell(x, y, 2), burns);
        DUE.is("cell(" + x + ", " + y + ", 3)", house.cell(x, y, 3), lit);
    }

    private static void cellTellsGhosts() {
        DUE.sentence("4 the ghosts in it");
        for (int[] at : CORNERS) {
            GhostCandles house = new GhostCandles();
            DUE.is("none", house.cell(at[0], at[1], 4), 0);
            for (int number = 1; number <= 6; number++) {
                house.come(at[0], at[1], 1);
                DUE.is("ghosts", house.cell(at[0], at[1], 4), number);
                DUE.is("ghosts elsewhere", house.cell(4, 3, 4), 0);
            }
            for (int ghost = 0; ghost < 6; ghost++) {
                house.send(ghost, 4, 3);
            }
            DUE.is("their goal is not where they are", house.cell(4, 3, 4), 0);
            house.pass(7);
            DUE.is("all have come", house.cell(4, 3, 4), 6);
            DUE.is("all have gone", house.cell(at[0], at[1], 4), 0);
        }
    }

    private static void countTellsAll() {
        DUE.sentence("0 the hour, 1 ghosts, 2 candles, 3 candles that burn, 4 mirrors, 5 tallies, "
                + "6 walls, 7 cells that are lit, 8 how often ghosts haunted in all, "
                + "9 the marks of all tallies, added");
        GhostCandles full = Houses.full();
        int[] due = {0, 6, 10, 10, 10, 6, 110, 10, 0, 0};
        for (int what = 0; what <= 9; what++) {
            DUE.is("count(" + what + ") of a full house", full.count(what), due[what]);
        }
        // The beam to the right of a candle in the column 2 ends with its sixth step at the rim.
        GhostCandles lit = new GhostCandles();
        for (int y = 0; y < 7; y++) {
            lit.candle(2, y, 60);
        }
        DUE.is("all cells are lit", lit.count(7), 63);
        GhostCandles marks = new GhostCandles();
        for (int x = 0; x < 6; x++) {
            marks.tally(x, 0);
            marks.come(x, 0, 1);
        }
        marks.pass(27);
        DUE.is("the hour", marks.count(0), 27);
        DUE.is("the most marks in all", marks.count(9), 6 * 99);
        DUE.is("haunted in all", marks.count(8), 6 * 27);
        marks.pass(1);
        DUE.is("marks, behind 99 in each", marks.count(9), 0);
        DUE.is("haunted in all", marks.count(8), 6 * 28);
        marks.remove(0, 0);
        DUE.is("haunted in all, without a tally", marks.count(8), 6 * 28);
    }
}
