/** Promises 16 and 17: the fewest steps of a way, and the step that a ghost would take. */
public final class WaysTest {
    private static final Due DUE = new Due("WaysTest");

    public static void main(String[] args) {
        promise16WayThroughTheDark();
        promise16WayThroughWalls();
        promise16And17Refuse();
        promise17Next();
        promise17NextPrefersNoWall();
        DUE.end();
    }

    private static void promise16WayThroughTheDark() {
        GhostCandles house = new GhostCandles();
        house.come(4, 3, 1);
        for (int cell = 0; cell < 63; cell++) {
            int x = cell % 9;
            int y = cell / 9;
            DUE.is("way to " + x + " " + y, house.way(0, x, y), Math.abs(x - 4) + Math.abs(y - 3));
        }
        house.candle(6, 0, 60);
        DUE.is("to a lit cell", house.way(0, 6, 3), -1);
        DUE.is("behind a column of light that ends at the rim", house.way(0, 8, 3), -1);
        DUE.is("before it", house.way(0, 5, 6), 4);
        house.wall(6, 5, 2);
        DUE.is("through the gap below a wall", house.way(0, 8, 3), 3 + 4 + 3);
        house.come(6, 4, 1);
        DUE.is("out of a lit cell", house.way(1, 7, 4), 1);
        DUE.is("in its own lit cell", house.way(1, 6, 4), 0);
        DUE.is("out of a lit cell to another", house.way(1, 6, 3), -1);
        DUE.is("out of a lit cell, and not by others", house.way(1, 6, 6), 4);
        house.light(6, 0);
        DUE.is("in the dark again", house.way(0, 8, 3), 4);
        house.send(1, 0, 0);
        DUE.is("the goal does not matter", house.way(1, 6, 3), 1);
        house.tally(5, 3);
        house.mirror(5, 2, true);
        DUE.is("through things", house.way(0, 6, 3), 2);
    }

    private static void promise16WayThroughWalls() {
        GhostCandles house = new GhostCandles();
        house.come(0, 0, 1);
        house.wall(0, 0, 1);
        house.wall(0, 0, 2);
        DUE.is("one wall", house.way(0, 3, 0), 3);
        for (int y = 0; y < 7; y++) {
            house.wall(4, y, 1);
        }
        DUE.is("two walls", house.way(0, 5, 0), -1);
        house.send(0, 1, 0);
        house.pass(1);
        DUE.is("passed", house.ghost(0, 5), 0);
        DUE.is("behind a wall again, and may not", house.way(0, 0, 0), -1);
        DUE.is("behind the other", house.way(0, 5, 0), -1);
        house.rite(0);
        DUE.is("and may", house.way(0, 0, 0), 1);
        DUE.is("behind the other, and may", house.way(0, 5, 0), 4);
        house.wall(4, 6, 1);
        DUE.is("through the wall is shorter than round it", house.way(0, 5, 0), 4);
        house.send(0, 1, 1);
        house.wall(1, 0, 2);
        house.pass(1);
        DUE.is("round it, when it may not", house.way(0, 5, 0), 5 + 4 + 6);
    }

    private static void promise16And17Refuse() {
        GhostCandles house = new GhostCandles();
        DUE.outOfBounds(house, "way(0, 0, 0) without ghosts", () -> house.way(0, 0, 0));
        DUE.outOfBounds(house, "next(0) without ghosts", () -> house.next(0));
        house.come(0, 0, 1);
        DUE.outOfBounds(house, "way(1, 0, 0)", () -> house.way(1, 0, 0));
        DUE.outOfBounds(house, "way(-1, 0, 0)", () -> house.way(-1, 0, 0));
        DUE.outOfBounds(house, "way(0, 9, 0)", () -> house.way(0, 9, 0));
        DUE.outOfBounds(house, "way(0, -1, 0)", () -> house.way(0, -1, 0));
        DUE.outOfBounds(house, "way(0, 0, 7)", () -> house.way(0, 0, 7));
        DUE.outOfBounds(house, "way(0, 0, -1)", () -> house.way(0, 0, -1));
        DUE.outOfBounds(house, "next(1)", () -> house.next(1));
        DUE.outOfBounds(house, "next(-1)", () -> house.next(-1));
    }

    private static void promise17Next() {
        GhostCandles house = new GhostCandles();
        house.come(4, 3, 3);
        DUE.is("at its goal", house.next(0), -1);
        int[][] goals = {
            {4, 0, 0}, {8, 3, 1}, {4, 6, 2}, {0, 3, 3}, {8, 0, 0}, {8, 6, 1}, {0, 6, 2}, {0, 0, 0}
        };
        for (int[] goal : goals) {
            house.send(0, goal[0], goal[1]);
            DUE.is("next to " + goal[0] + " " + goal[1], house.next(0), goal[2]);
        }
        house.candle(0, 0, 9);
        DUE.is("to a lit goal", house.next(0), -1);
        house.candle(4, 2, 9);
        DUE.is("it stands in the light now", house.cell(4, 3, 3), 1);
        house.send(0, 8, 0);
        DUE.is("not into the light", house.next(0), -1);
        house.send(0, 8, 6);
        DUE.is("out of the light", house.next(0), 1);
        house.send(0, 4, 3);
        DUE.is("at its goal in the light", house.next(0), -1);
    }

    private static void promise17NextPrefersNoWall() {
        GhostCandles house = new GhostCandles();
        house.come(4, 3, 1);
        house.send(0, 5, 2);
        DUE.is("up comes first", house.next(0), 0);
        house.wall(4, 3, 0);
        DUE.is("as short, without a wall", house.next(0), 1);
        house.wall(5, 3, 0);
        DUE.is("as short, the wall later", house.next(0), 1);
        house.wall(4, 3, 1);
        DUE.is("to the right there are two walls now", house.next(0), 0);
        house.wall(5, 3, 0);
        DUE.is("a wall in both: by directions", house.next(0), 0);
        house.send(0, 4, 2);
        DUE.is("the shorter one, though a wall is there", house.next(0), 0);
        house.send(0, 5, 3);
        house.pass(1);
        DUE.is("it passed to the right", house.ghost(0, 0), 5);
        house.send(0, 4, 3);
        DUE.is("round the wall, when it may not: below, the way up is walled", house.next(0), 2);
    }
}
