/** Promises 1 to 7: a new object, walls, candles, mirrors, tallies, taking away, lighting. */
public final class WallsAndThingsTest {
    private static final Due DUE = new Due("WallsAndThingsTest");
    private static final int[][] OUTSIDE = {
        {-1, 0}, {9, 0}, {0, -1}, {0, 7}, {Integer.MIN_VALUE, 3}, {Integer.MAX_VALUE, 3},
        {3, Integer.MIN_VALUE}, {3, Integer.MAX_VALUE}, {-9, 1}, {9, -1}
    };

    public static void main(String[] args) {
        promise1NewObject();
        promise2Wall();
        promise2WallRefuses();
        promise3Candle();
        promise3CandleRefuses();
        promise4Mirror();
        promise5Tally();
        promise6Remove();
        promise7Light();
        beamsEnd();
        mirrorsTurnBeams();
        thingsAndWallsChangeTheLight();
        DUE.end();
    }

    private static void promise1NewObject() {
        GhostCandles house = new GhostCandles();
        for (int what = 0; what <= 9; what++) {
            DUE.is("count(" + what + ") of a new house", house.count(what), 0);
        }
        for (int cell = 0; cell < 63; cell++) {
            int x = cell % 9;
            int y = cell / 9;
            for (int what = 0; what <= 4; what++) {
                DUE.is("cell " + x + " " + y + " " + what, house.cell(x, y, what), 0);
            }
        }
        DUE.outOfBounds(house, "ghost(0, 0) of a new house", () -> house.ghost(0, 0));
        newObjectHasNoWalls();
        GhostCandles other = new GhostCandles();
        other.wall(4, 4, 0);
        other.candle(1, 1, 5);
        DUE.is("walls of a house besides another", house.count(6), 0);
        DUE.is("candles of a house besides another", house.count(2), 0);
    }

    private static void newObjectHasNoWalls() {
        GhostCandles house = new GhostCandles();
        for (int cell = 0; cell < 63; cell++) {
            int x = cell % 9;
            int y = cell / 9;
            DUE.is("rim above " + x + " " + y, house.walled(x, y, 0), y == 0);
            DUE.is("rim right of " + x + " " + y, house.walled(x, y, 1), x == 8);
            DUE.is("rim below " + x + " " + y, house.walled(x, y, 2), y == 6);
            DUE.is("rim left of " + x + " " + y, house.walled(x, y, 3), x == 0);
        }
    }

    private static void promise2Wall() {
        GhostCandles house = new GhostCandles();
        int walls = 0;
        for (int cell = 0; cell < 63; cell++) {
            int x = cell % 9;
            int y = cell / 9;
            if (x < 8) {
                DUE.is("wall right of " + x + " " + y, house.wall(x, y, 1), true);
                DUE.is("seen from the left", house.walled(x, y, 1), true);
                DUE.is("seen from the right", house.walled(x + 1, y, 3), true);
                DUE.is("walls", house.count(6), ++walls);
            }
            if (y < 6) {
                DUE.is("wall above " + x + " " + (y + 1), house.wall(x, y + 1, 0), true);
                DUE.is("seen from above", house.walled(x, y, 2), true);
                DUE.is("seen from below", house.walled(x, y + 1, 0), true);
                DUE.is("walls", house.count(6), ++walls);
            }
        }
        DUE.is("all walls", house.count(6), 8 * 7 + 9 * 6);
        DUE.is("the other way round, down", house.wall(4, 3, 2), false);
        DUE.is("no wall below", house.walled(4, 4, 0), false);
        DUE.is("the other way round, left", house.wall(4, 3, 3), false);
        DUE.is("no wall to the left", house.walled(3, 3, 1), false);
        DUE.is("walls without two", house.count(6), 108);
        DUE.is("built again", house.wall(3, 3, 1), true);
        DUE.is("walls without one", house.count(6), 109);
    }

    private static void promise2WallRefuses() {
        GhostCandles house = new GhostCandles();
        for (int[] at : OUTSIDE) {
            DUE.outOfBounds(house, "wall outside", () -> house.wall(at[0], at[1], 1));
            DUE.outOfBounds(house, "wall outside, bad direction", () -> house.wall(at[0], at[1], 4));
        }
        for (int direction : new int[] {-1, 4, Integer.MIN_VALUE, Integer.MAX_VALUE}) {
            DUE.badArgument(house, "wall in direction " + direction, () -> house.wall(0, 0, direction));
        }
        DUE.badState(house, "wall(3, 0, 0)", () -> house.wall(3, 0, 0));
        DUE.badState(house, "wall(8, 3, 1)", () -> house.wall(8, 3, 1));
        DUE.badState(house, "wall(3, 6, 2)", () -> house.wall(3, 6, 2));
        DUE.badState(house, "wall(0, 3, 3)", () -> house.wall(0, 3, 3));
        DUE.is("wall(8, 3, 0)", house.wall(8, 3, 0), true);
        DUE.is("wall(0, 3, 2)", house.wall(0, 3, 2), true);
    }

    private static void promise3Candle() {
        GhostCandles house = new GhostCandles();
        for (int number = 1; number <= 9; number++) {
            DUE.is("candle " + number, house.candle(number - 1, 2, number), number);
            DUE.is("its wax", house.cell(number - 1, 2, 1), number);
            DUE.is("it burns", house.cell(number - 1, 2, 2), 1);
            DUE.is("it lights its cell", house.cell(number - 1, 2, 3), 1);
        }
        DUE.is("candle 10", house.candle(0, 0, 60), 10);
        DUE.is("its wax", house.cell(0, 0, 1), 60);
        DUE.is("candles that burn", house.count(3), 10);
        DUE.badState(house, "candle 11", () -> house.candle(8, 6, 5));
        house.remove(0, 2);
        DUE.is("candle 10 again", house.candle(8, 6, 1), 10);
    }

    private static void promise3CandleRefuses() {
        GhostCandles house = new GhostCandles();
        for (int[] at : OUTSIDE) {
            DUE.outOfBounds(house, "candle outside", () -> house.candle(at[0], at[1], 5));
            DUE.outOfBounds(house, "candle outside, bad wax", () -> house.candle(at[0], at[1], 0));
        }
        for (int wax : new int[] {0, 61, -1, Integer.MIN_VALUE, Integer.MAX_VALUE}) {
            DUE.badArgument(house, "candle with wax " + wax, () -> house.candle(0, 0, wax));
        }
        house.candle(1, 1, 5);
        house.mirror(2, 1, true);
        house.mirror(3, 1, false);
        house.tally(4, 1);
        for (int x = 1; x <= 4; x++) {
            int at = x;
            DUE.badState(house, "candle on a thing", () -> house.candle(at, 1, 5));
            DUE.badState(house, "mirror on a thing", () -> house.mirror(at, 1, true));
            DUE.badState(house, "tally on a thing", () -> house.tally(at, 1));
            DUE.badArgument(house, "candle on a thing, bad wax", () -> house.candle(at, 1, 61));
        }
        house.come(5, 1, 1);
        DUE.is("candle where a ghost is", house.candle(5, 1, 5), 2);
    }

    private static void promise4Mirror() {
        GhostCandles house = new GhostCandles();
        for (int number = 1; number <= 10; number++) {
            int x = number % 9;
            int y = number / 9;
            DUE.is("mirror " + number, house.mirror(x, y, number % 2 == 0), number);
            DUE.is("how it leans", house.cell(x, y, 0), number % 2 == 0 ? 2 : 3);
            DUE.is("its amount", house.cell(x, y, 1), 0);
        }
        DUE.is("mirrors", house.count(4), 10);
        DUE.badState(house, "mirror 11", () -> house.mirror(5, 5, true));
        for (int[] at : OUTSIDE) {
            DUE.outOfBounds(house, "mirror outside", () -> house.mirror(at[0], at[1], true));
        }
        DUE.is("remove a left one", house.remove(1, 0), 3);
        DUE.is("mirror 10 again", house.mirror(5, 5, true), 10);
        DUE.is("candles have room of their own", house.candle(6, 6, 5), 1);
    }

    private static void promise5Tally() {
        GhostCandles house = new GhostCandles();
        for (int number = 1; number <= 6; number++) {
            DUE.is("tally " + number, house.tally(number, number), number);
            DUE.is("its code", house.cell(number, number, 0), 4);
            DUE.is("its marks", house.cell(number, number, 1), 0);
        }
        DUE.badState(house, "tally 7", () -> house.tally(8, 0));
        for (int[] at : OUTSIDE) {
            DUE.outOfBounds(house, "tally outside", () -> house.tally(at[0], at[1]));
        }
        house.remove(1, 1);
        DUE.is("tally 6 again", house.tally(8, 0), 6);
        house.come(8, 0, 1);
        house.pass(3);
        DUE.is("marks", house.cell(8, 0, 1), 3);
        house.remove(8, 0);
        DUE.is("a tally in the place of another has no marks", house.tally(8, 0), 6);
        DUE.is("marks", house.cell(8, 0, 1), 0);
    }

    private static void promise6Remove() {
        GhostCandles house = new GhostCandles();
        house.candle(0, 0, 9);
        house.mirror(8, 0, true);
        house.mirror(0, 6, false);
        house.tally(8, 6);
        for (int[] at : OUTSIDE) {
            DUE.outOfBounds(house, "remove outside", () -> house.remove(at[0], at[1]));
        }
        DUE.badState(house, "remove nothing", () -> house.remove(4, 4));
        DUE.is("remove a candle", house.remove(0, 0), 1);
        DUE.is("remove a mirror to the right", house.remove(8, 0), 2);
        DUE.is("remove a mirror to the left", house.remove(0, 6), 3);
        DUE.is("remove a tally", house.remove(8, 6), 4);
        DUE.is("digest() as new", house.digest(), new GhostCandles().digest());
        DUE.badState(house, "remove again", () -> house.remove(0, 0));
        house.candle(4, 4, 1);
        house.pass(1);
        DUE.is("remove a candle without wax", house.remove(4, 4), 1);
        house.come(2, 2, 1);
        DUE.badState(house, "a ghost is no thing", () -> house.remove(2, 2));
    }

    private static void promise7Light() {
        GhostCandles house = new GhostCandles();
        house.candle(4, 3, 2);
        house.mirror(5, 3, true);
        house.tally(6, 3);
        for (int[] at : OUTSIDE) {
            DUE.outOfBounds(house, "light outside", () -> house.light(at[0], at[1]));
        }
        DUE.badState(house, "light nothing", () -> house.light(0, 0));
        DUE.badState(house, "light a mirror", () -> house.light(5, 3));
        DUE.badState(house, "light a tally", () -> house.light(6, 3));
        DUE.is("put out", house.light(4, 3), false);
        DUE.is("burns no more", house.cell(4, 3, 2), 0);
        DUE.is("cells that are lit", house.count(7), 0);
        house.pass(3);
        DUE.is("its wax stays", house.cell(4, 3, 1), 2);
        DUE.is("lit", house.light(4, 3), true);
        DUE.is("burns", house.cell(4, 3, 2), 1);
        house.pass(1);
        DUE.is("wax", house.cell(4, 3, 1), 1);
        DUE.is("still burns", house.cell(4, 3, 2), 1);
        house.pass(1);
        DUE.is("burnt down", house.cell(4, 3, 2), 0);
        DUE.badState(house, "light one without wax", () -> house.light(4, 3));
    }

    private static void beamsEnd() {
        GhostCandles house = new GhostCandles();
        house.candle(0, 3, 60);
        DUE.is("lit up to the sixth step", Houses.lit(house, 3), "#######..");
        DUE.is("lit cells: 7 in the row, 6 in the column", house.count(7), 13);
        house.wall(2, 3, 1);
        DUE.is("lit up to a wall", Houses.lit(house, 3), "###......");
        house.wall(2, 3, 1);
        house.tally(1, 3);
        house.candle(2, 3, 5);
        house.light(2, 3);
        DUE.is("tallies and candles stop no beam", Houses.lit(house, 3), "#######..");
        house.light(2, 3);
        DUE.is("two candles", Houses.lit(house, 3), "#########");
        house.light(0, 3);
        DUE.is("the second alone", Houses.lit(house, 3), "#########");
    }

    private static void mirrorsTurnBeams() {
        // For each direction in which the beam comes: where it goes on from a mirror to the right.
        int[][] turns = {{0, 1, 3}, {1, 0, 2}, {2, 3, 1}, {3, 2, 0}};
        int[] stepX = {0, 1, 0, -1};
        int[] stepY = {-1, 0, 1, 0};
        for (int[] turn : turns) {
            for (int lean = 0; lean < 2; lean++) {
                GhostCandles house = new GhostCandles();
                int x = 4 - stepX[turn[0]];
                int y = 3 - stepY[turn[0]];
                for (int direction = 0; direction < 4; direction++) {
                    if (direction != turn[0] && !house.walled(x, y, direction)) {
                        house.wall(x, y, direction);
                    }
                }
                house.mirror(4, 3, lean == 0);
                house.candle(x, y, 9);
                for (int direction = 0; direction < 4; direction++) {
                    boolean lit = house.cell(4 + stepX[direction], 3 + stepY[direction], 3) == 1;
                    boolean due = direction == turn[1 + lean] || direction == (turn[0] + 2) % 4;
                    DUE.is("going " + turn[0] + ", mirror " + lean + ", lit " + direction, lit, due);
                }
            }
        }
        GhostCandles house = new GhostCandles();
        house.candle(0, 6, 9);
        house.mirror(2, 6, true);
        house.mirror(2, 4, true);
        DUE.is("two steps right, two up, two right", Houses.lit(house, 4), "#.###....");
        DUE.is("nothing above the second mirror", Houses.lit(house, 3), "#........");
    }

    private static void thingsAndWallsChangeTheLight() {
        GhostCandles house = new GhostCandles();
        house.candle(0, 0, 9);
        house.candle(0, 1, 9);
        DUE.is("row 1", Houses.lit(house, 1), "#######..");
        house.mirror(3, 1, false);
        DUE.is("row 1 with a mirror that turns it down", Houses.lit(house, 1), "####.....");
        DUE.is("row 2 below it", Houses.lit(house, 2), "#..#.....");
        house.wall(3, 2, 0);
        DUE.is("row 2 behind a wall", Houses.lit(house, 2), "#........");
        house.remove(3, 1);
        DUE.is("row 1 without the mirror", Houses.lit(house, 1), "#######..");
        house.remove(0, 1);
        DUE.is("row 1 without the candle", Houses.lit(house, 1), "#........");
        house.remove(0, 0);
        DUE.is("lit cells without candles", house.count(7), 0);
    }
}
