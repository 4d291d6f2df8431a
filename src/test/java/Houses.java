/** Houses that several tests need, and what they look at in them. */
final class Houses {
    static final int[] STEP_X = {0, 1, 0, -1};
    static final int[] STEP_Y = {-1, 0, 1, 0};

    private Houses() {
    }

    /** As many things, ghosts and walls as a house can have, in 142 calls. */
    static GhostCandles full() {
        GhostCandles house = new GhostCandles();
        fillWithThings(house);
        for (int number = 0; number < 6; number++) {
            house.come(8 - number, 6, number % 3 + 1);
            house.send(number, number, 2);
        }
        buildAllWalls(house);
        return house;
    }

    /** 10 candles in the rows 0 and 1, 10 mirrors in the rows 3 and 4, 6 tallies in the row 2. */
    static void fillWithThings(GhostCandles house) {
        for (int number = 0; number < 10; number++) {
            house.candle(number % 9, number / 9, 60 - number);
            house.mirror(number % 9, 3 + number / 9, number % 2 == 0);
        }
        for (int number = 0; number < 6; number++) {
            house.tally(number, 2);
        }
    }

    static void buildAllWalls(GhostCandles house) {
        for (int cell = 0; cell < 63; cell++) {
            if (cell % 9 < 8) {
                house.wall(cell % 9, cell / 9, 1);
            }
            if (cell / 9 < 6) {
                house.wall(cell % 9, cell / 9, 2);
            }
        }
    }

    static boolean isInside(int x, int y) {
        return x >= 0 && x <= 8 && y >= 0 && y <= 6;
    }

    /** Builds, or pulls down, the walls of a cell on its sides where the house goes on. */
    static void wallsAround(GhostCandles house, int x, int y) {
        for (int direction = 0; direction < 4; direction++) {
            if (isInside(x + STEP_X[direction], y + STEP_Y[direction])) {
                house.wall(x, y, direction);
            }
        }
    }

    /** Lit cells of a row are #, dark ones a point. */
    static String lit(GhostCandles house, int y) {
        StringBuilder row = new StringBuilder();
        for (int x = 0; x < 9; x++) {
            row.append(house.cell(x, y, 3) == 1 ? '#' : '.');
        }
        return row.toString();
    }

    static String place(GhostCandles house, int ghost) {
        return house.ghost(ghost, 0) + " " + house.ghost(ghost, 1);
    }
}
