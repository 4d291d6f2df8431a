/** Each sentence about candles, mirrors, tallies and beams that names a boundary case. */
public final class EdgesOfThingsTest {
    private static final Due DUE = new Due("EdgesOfThingsTest");

    public static void main(String[] args) {
        aCellHasOneThing();
        atMostSoMany();
        tooManyCandlesOrAThing();
        tooManyMirrorsOrAThing();
        tooManyTalliesOrAThing();
        returnsHowMany();
        aCandleBurnsAtFirst();
        leastAndMostWax();
        aTallyWithoutMarks();
        nothingToRemove();
        removeReturnsWhatItWas();
        noCandleOrNoWax();
        lightReturnsWhetherItBurns();
        beamsOfSixSteps();
        beamsTillAWall();
        beamsTillTheRim();
        beamsLightEachCell();
        mirrorsTurn();
        mirrorsCountAsSteps();
        litAtThisMoment();
        shinesTheLeastAndTheMost();
        shinesInPlaceOfTheThing();
        DUE.end();
    }

    private static void aCellHasOneThing() {
        DUE.sentence("A cell has at most one thing: a candle, a mirror or a tally.");
        for (int thing = 1; thing <= 4; thing++) {
            GhostCandles house = new GhostCandles();
            set(house, 8, 6, thing);
            isTaken(house, "the cell has " + thing);
            DUE.is("it has it still", house.cell(8, 6, 0), thing);
            house.remove(8, 6);
            set(house, 8, 6, 5 - thing);
            DUE.is("another one, when it is gone", house.cell(8, 6, 0), 5 - thing);
        }
        GhostCandles house = new GhostCandles();
        house.candle(8, 6, 1);
        house.pass(1);
        isTaken(house, "a candle without wax");
        house.candle(7, 6, 5);
        house.light(7, 6);
        DUE.badState(house, "a candle on one that is out", () -> house.candle(7, 6, 5));
    }

    private static void isTaken(GhostCandles house, String what) {
        DUE.badState(house, "candle, " + what, () -> house.candle(8, 6, 60));
        DUE.badState(house, "mirror to the right, " + what, () -> house.mirror(8, 6, true));
        DUE.badState(house, "mirror to the left, " + what, () -> house.mirror(8, 6, false));
        DUE.badState(house, "tally, " + what, () -> house.tally(8, 6));
    }

    /** Sets up what remove() tells by this number. */
    private static void set(GhostCandles house, int x, int y, int thing) {
        if (thing == 1) {
            house.candle(x, y, 7);
        } else if (thing == 4) {
            house.tally(x, y);
        } else {
            house.mirror(x, y, thing == 2);
        }
    }

    private static void atMostSoMany() {
        DUE.sentence("There are at most 10 candles, 10 mirrors and 6 tallies.");
        GhostCandles house = new GhostCandles();
        Houses.fillWithThings(house);
        DUE.is("candles", house.count(2), 10);
        DUE.is("mirrors", house.count(4), 10);
        DUE.is("tallies", house.count(5), 6);
        DUE.badState(house, "candle 11", () -> house.candle(8, 6, 1));
        DUE.badState(house, "mirror 11, to the right", () -> house.mirror(8, 6, true));
        DUE.badState(house, "mirror 11, to the left", () -> house.mirror(8, 6, false));
        DUE.badState(house, "tally 7", () -> house.tally(8, 6));
        house.remove(0, 0);
        DUE.badState(house, "mirror 11 for a candle", () -> house.mirror(8, 6, true));
        DUE.badState(house, "tally 7 for a candle", () -> house.tally(8, 6));
        DUE.is("candle 10 again", house.candle(8, 6, 1), 10);
        house.remove(0, 3);
        DUE.badState(house, "candle 11 for a mirror", () -> house.candle(7, 6, 1));
        DUE.badState(house, "tally 7 for a mirror", () -> house.tally(7, 6));
        DUE.is("mirror 10 again", house.mirror(7, 6, false), 10);
        house.remove(0, 2);
        DUE.badState(house, "candle 11 for a tally", () -> house.candle(6, 6, 1));
        DUE.badState(house, "mirror 11 for a tally", () -> house.mirror(6, 6, true));
        DUE.is("tally 6 again", house.tally(6, 6), 6);
    }

    private static void tooManyCandlesOrAThing() {
        DUE.sentence("Throws `IllegalStateException` if there are 10, or the cell has a thing");
        GhostCandles house = new GhostCandles();
        for (int x = 0; x < 9; x++) {
            house.candle(x, 0, x == 0 ? 1 : 60);
        }
        DUE.badState(house, "9, but the cell has a thing", () -> house.candle(8, 0, 5));
        DUE.is("the tenth", house.candle(8, 6, 1), 10);
        DUE.badState(house, "the eleventh", () -> house.candle(0, 6, 1));
        DUE.badState(house, "the eleventh, where one is", () -> house.candle(8, 6, 1));
        DUE.badArgument(house, "the eleventh, without wax", () -> house.candle(8, 6, 0));
        DUE.outOfBounds(house, "the eleventh, outside, without wax", () -> house.candle(9, 6, 0));
        house.pass(1);
        house.light(4, 0);
        DUE.is("two have burnt down and one is out", house.count(3), 7);
        DUE.badState(house, "they count all the same", () -> house.candle(0, 6, 1));
    }

    private static void tooManyMirrorsOrAThing() {
        DUE.sentence("Throws `IllegalStateException` if there are 10, or the cell has a thing");
        for (int right = 0; right <= 10; right += 5) {
            GhostCandles house = new GhostCandles();
            for (int number = 0; number < 9; number++) {
                house.mirror(number, 6, number < right);
            }
            DUE.badState(house, "9, but the cell has a thing", () -> house.mirror(8, 6, true));
            DUE.is("the tenth", house.mirror(0, 0, right == 10), 10);
            DUE.badState(house, "the eleventh, to the right", () -> house.mirror(8, 0, true));
            DUE.badState(house, "the eleventh, to the left", () -> house.mirror(8, 0, false));
            DUE.badState(house, "the eleventh, where one is", () -> house.mirror(0, 0, true));
            DUE.outOfBounds(house, "the eleventh, outside", () -> house.mirror(0, 7, true));
        }
    }

    private static void tooManyTalliesOrAThing() {
        DUE.sentence("Throws `IllegalStateException` if there are 6, or the cell has a thing");
        GhostCandles house = new GhostCandles();
        for (int x = 4; x <= 8; x++) {
            house.tally(x, 6);
        }
        DUE.badState(house, "5, but the cell has a thing", () -> house.tally(8, 6));
        DUE.is("the sixth", house.tally(0, 0), 6);
        DUE.badState(house, "the seventh", () -> house.tally(0, 6));
        DUE.badState(house, "the seventh, where one is", () -> house.tally(0, 0));
        DUE.outOfBounds(house, "the seventh, outside", () -> house.tally(-1, 0));
    }

    private static void returnsHowMany() {
        DUE.sentence("Returns how many candles there are then.");
        GhostCandles house = new GhostCandles();
        for (int number = 1; number <= 10; number++) {
            DUE.is("candle", house.candle(number % 9, number / 9, 1), number);
        }
        DUE.sentence("Returns how many mirrors there are then.");
        for (int number = 1; number <= 10; number++) {
            DUE.is("mirror", house.mirror(number % 9, 2 + number / 9, number % 3 == 0), number);
        }
        DUE.sentence("Returns how many tallies there are then.");
        for (int number = 1; number <= 6; number++) {
            DUE.is("tally", house.tally(number, 4), number);
        }
    }

    private static void aCandleBurnsAtFirst() {
        DUE.sentence("Sets up a candle, which burns.");
        for (int wax = 1; wax <= 60; wax += 59) {
            GhostCandles house = new GhostCandles();
            house.candle(8, 0, wax);
            DUE.is("it burns, wax " + wax, house.cell(8, 0, 2), 1);
            DUE.is("candles that burn", house.count(3), 1);
            DUE.is("its cell is lit", house.cell(8, 0, 3), 1);
            DUE.is("its wax", house.cell(8, 0, 1), wax);
        }
    }

    private static void leastAndMostWax() {
        DUE.sentence("A candle has wax, 0 to 60, and burns (at first) or not.");
        GhostCandles house = new GhostCandles();
        house.candle(0, 0, 60);
        house.candle(8, 6, 1);
        isCandle(house, 0, 0, 60, 1);
        isCandle(house, 8, 6, 1, 1);
        house.pass(1);
        isCandle(house, 0, 0, 59, 1);
        isCandle(house, 8, 6, 0, 0);
        house.pass(40);
        house.pass(18);
        isCandle(house, 0, 0, 1, 1);
        isCandle(house, 8, 6, 0, 0);
        house.pass(1);
        isCandle(house, 0, 0, 0, 0);
        house.pass(40);
        isCandle(house, 0, 0, 0, 0);
        DUE.is("candles", house.count(2), 2);
        house.candle(4, 3, 60);
        house.light(4, 3);
        house.pass(40);
        house.pass(40);
        isCandle(house, 4, 3, 60, 0);
    }

    private static void isCandle(GhostCandles house, int x, int y, int wax, int burns) {
        DUE.is("wax of " + x + " " + y, house.cell(x, y, 1), wax);
        DUE.is("it burns, " + x + " " + y, house.cell(x, y, 2), burns);
    }

    private static void aTallyWithoutMarks() {
        DUE.sentence("A tally has marks, 0 to 99 (0, at first).");
        GhostCandles house = new GhostCandles();
        house.candle(0, 0, 60);
        house.remove(0, 0);
        house.tally(0, 0);
        DUE.is("where wax was", house.cell(0, 0, 1), 0);
        house.come(0, 0, 1);
        house.pass(27);
        DUE.is("the most", house.cell(0, 0, 1), 99);
        house.remove(0, 0);
        house.tally(0, 0);
        DUE.is("where marks were", house.cell(0, 0, 1), 0);
        for (int hour = 0; hour < 60; hour++) {
            house.pass(1);
            int marks = house.cell(0, 0, 1);
            DUE.is("0 to 99, and not " + marks, marks >= 0 && marks <= 99, true);
        }
    }

    private static void nothingToRemove() {
        DUE.sentence("Throws `IllegalStateException` if the cell has none");
        GhostCandles house = new GhostCandles();
        DUE.badState(house, "in an empty house", () -> house.remove(0, 0));
        house.tally(1, 0);
        house.candle(0, 1, 5);
        house.wall(0, 0, 1);
        DUE.badState(house, "beside things", () -> house.remove(0, 0));
        house.come(0, 0, 1);
        DUE.badState(house, "with a ghost", () -> house.remove(0, 0));
        DUE.is("a tally", house.remove(1, 0), 4);
        DUE.badState(house, "a second time", () -> house.remove(1, 0));
        GhostCandles full = Houses.full();
        DUE.badState(full, "in a full house", () -> full.remove(8, 6));
    }

    private static void removeReturnsWhatItWas() {
        DUE.sentence("Returns what it was: 1 a candle, 2 a mirror that leans to the right, "
                + "3 one that leans to the left, 4 a tally.");
        GhostCandles house = new GhostCandles();
        Houses.fillWithThings(house);
        for (int number = 0; number < 10; number++) {
            DUE.is("a candle", house.remove(number % 9, number / 9), 1);
            DUE.is("a mirror", house.remove(number % 9, 3 + number / 9), number % 2 == 0 ? 2 : 3);
            DUE.is("candles", house.count(2), 9 - number);
            DUE.is("mirrors", house.count(4), 9 - number);
        }
        for (int number = 0; number < 6; number++) {
            DUE.is("a tally", house.remove(number, 2), 4);
            DUE.is("tallies", house.count(5), 5 - number);
        }
        DUE.is("digest() as new", house.digest(), new GhostCandles().digest());
        house.candle(0, 0, 1);
        house.pass(1);
        DUE.is("a candle without wax", house.remove(0, 0), 1);
    }

    private static void noCandleOrNoWax() {
        DUE.sentence("Throws `IllegalStateException` if there is no candle in the cell, "
                + "or it has no wax");
        GhostCandles house = new GhostCandles();
        DUE.badState(house, "in an empty house", () -> house.light(0, 0));
        house.mirror(0, 0, true);
        house.mirror(0, 6, false);
        house.tally(8, 6);
        house.come(8, 6, 1);
        house.pass(1);
        DUE.badState(house, "a mirror to the right", () -> house.light(0, 0));
        DUE.badState(house, "a mirror to the left", () -> house.light(0, 6));
        DUE.badState(house, "a tally with marks", () -> house.light(8, 6));
        DUE.badState(house, "a cell beside", () -> house.light(7, 6));
        house.candle(8, 0, 1);
        house.pass(1);
        DUE.badState(house, "a candle that has burnt down", () -> house.light(8, 0));
        house.remove(8, 0);
        DUE.badState(house, "a candle that is gone", () -> house.light(8, 0));
        house.candle(8, 0, 1);
        DUE.is("a new one with the least wax", house.light(8, 0), false);
    }

    private static void lightReturnsWhetherItBurns() {
        DUE.sentence("Returns whether it burns then.");
        GhostCandles house = new GhostCandles();
        house.candle(8, 6, 1);
        DUE.is("put out", house.light(8, 6), false);
        house.pass(40);
        isCandle(house, 8, 6, 1, 0);
        DUE.is("lit, with the least wax", house.light(8, 6), true);
        isCandle(house, 8, 6, 1, 1);
        house.pass(1);
        isCandle(house, 8, 6, 0, 0);
    }

    private static void beamsOfSixSteps() {
        DUE.sentence("it goes from cell to neighbour, at most 6 steps");
        GhostCandles first = new GhostCandles();
        first.candle(0, 0, 9);
        DUE.is("to the right", Houses.lit(first, 0), "#######..");
        DUE.is("down, all of the column", Houses.lit(first, 6), "#........");
        DUE.is("cells", first.count(7), 13);
        GhostCandles last = new GhostCandles();
        last.candle(8, 6, 9);
        DUE.is("to the left", Houses.lit(last, 6), "..#######");
        DUE.is("up, all of the column", Houses.lit(last, 0), "........#");
        DUE.is("cells", last.count(7), 13);
        GhostCandles between = new GhostCandles();
        between.candle(1, 3, 9);
        DUE.is("one to the left, six to the right", Houses.lit(between, 3), "########.");
    }

    private static void beamsTillAWall() {
        DUE.sentence("till a wall or the rim is ahead of it");
        GhostCandles house = new GhostCandles();
        house.candle(4, 3, 9);
        Houses.wallsAround(house, 4, 3);
        DUE.is("walls all around: its own cell alone", house.count(7), 1);
        DUE.is("its own cell", house.cell(4, 3, 3), 1);
        for (int direction = 0; direction < 4; direction++) {
            house.wall(4, 3, direction);
            int due = direction % 2 == 0 ? 4 : 5;
            DUE.is("the wall " + direction + " is gone", house.count(7), due);
            house.wall(4, 3, direction);
        }
        GhostCandles row = new GhostCandles();
        row.candle(0, 3, 9);
        row.wall(5, 3, 1);
        DUE.is("before the sixth step", Houses.lit(row, 3), "######...");
        row.wall(5, 3, 1);
        row.wall(6, 3, 1);
        DUE.is("behind the sixth step", Houses.lit(row, 3), "#######..");
        row.wall(3, 3, 0);
        row.wall(3, 3, 2);
        DUE.is("beside it", Houses.lit(row, 3), "#######..");
    }

    private static void beamsTillTheRim() {
        DUE.sentence("till a wall or the rim is ahead of it");
        // Light of one row ends at the rim: it does not go on in the row before or behind.
        String[] due = {"........#", "........#", "........#", "..#######", "........#", "........#",
            "........#"};
        GhostCandles right = new GhostCandles();
        right.candle(8, 3, 9);
        for (int y = 0; y < 7; y++) {
            DUE.is("row " + y, Houses.lit(right, y), due[y]);
        }
        GhostCandles left = new GhostCandles();
        left.candle(0, 3, 9);
        for (int y = 0; y < 7; y++) {
            String turned = new StringBuilder(due[y]).reverse().toString();
            DUE.is("row " + y, Houses.lit(left, y), turned);
        }
        for (int y = 0; y < 7; y += 6) {
            GhostCandles house = new GhostCandles();
            house.candle(4, y, 9);
            DUE.is("four beams, one to the rim: row", Houses.lit(house, y), "#########");
            DUE.is("column", house.count(7), 9 + 6);
        }
    }

    private static void beamsLightEachCell() {
        DUE.sentence("lights each cell to which it comes");
        GhostCandles house = new GhostCandles();
        house.candle(0, 0, 9);
        house.tally(1, 0);
        house.candle(2, 0, 1);
        house.light(2, 0);
        house.come(3, 0, 1);
        house.mirror(6, 0, true);
        DUE.is("over tallies, candles and ghosts, to a mirror", Houses.lit(house, 0), "#######..");
        house.remove(6, 0);
        house.mirror(5, 0, false);
        DUE.is("a mirror in the fifth cell", Houses.lit(house, 0), "######...");
        DUE.is("the sixth step from there", Houses.lit(house, 1), "#....#...");
        DUE.is("no seventh", Houses.lit(house, 2), "#........");
    }

    private static void mirrorsTurn() {
        // By direction in which it comes, to one that leans to the right and to the left.
        int[][] goesOn = {{1, 0, 3, 2}, {3, 2, 1, 0}};
        String[] sentences = {
            "What comes to one that leans to the right going up, goes on to the right, and the other "
                    + "way round (going right: up); going down, to the left, and the other way round "
                    + "(going left: down).",
            "To the left: going up, to the left, and the other way round; going down, to the right, "
                    + "and the other way round."
        };
        for (int lean = 0; lean < 2; lean++) {
            DUE.sentence(sentences[lean]);
            for (int direction = 0; direction < 4; direction++) {
                GhostCandles house = new GhostCandles();
                int x = 4 - Houses.STEP_X[direction];
                int y = 3 - Houses.STEP_Y[direction];
                Houses.wallsAround(house, x, y);
                house.wall(x, y, direction);
                house.mirror(4, 3, lean == 0);
                house.candle(x, y, 9);
                int to = goesOn[lean][direction];
                DUE.is("the cell of the mirror", house.cell(4, 3, 3), 1);
                for (int other = 0; other < 4; other++) {
                    int lit = house.cell(4 + Houses.STEP_X[other], 3 + Houses.STEP_Y[other], 3);
                    boolean due = other == to || other == (direction + 2) % 4;
                    DUE.is("going " + direction + ", is " + other + " lit", lit == 1, due);
                }
                house.wall(4, 3, to);
                DUE.is("with a wall ahead, when it is turned", house.count(7), 2);
            }
        }
    }

    private static void mirrorsCountAsSteps() {
        DUE.sentence("in a cell with a mirror it goes on as this has it");
        GhostCandles stairs = new GhostCandles();
        stairs.candle(0, 0, 9);
        stairs.wall(0, 0, 2);
        int[][] mirrors = {{1, 0}, {1, 1}, {2, 1}, {2, 2}, {3, 2}, {3, 3}};
        for (int[] at : mirrors) {
            stairs.mirror(at[0], at[1], false);
        }
        DUE.is("six steps with six mirrors", stairs.count(7), 1 + 6);
        DUE.is("the sixth", Houses.lit(stairs, 3), "...#.....");
        GhostCandles rim = new GhostCandles();
        rim.candle(0, 0, 9);
        rim.wall(0, 0, 2);
        rim.mirror(3, 0, true);
        DUE.is("turned to the rim it ends", rim.count(7), 4);
        DUE.is("with the mirror's cell", Houses.lit(rim, 0), "####.....");
        GhostCandles corner = new GhostCandles();
        corner.candle(3, 0, 9);
        corner.wall(3, 0, 1);
        corner.wall(3, 0, 2);
        corner.mirror(0, 0, true);
        DUE.is("round the corner", corner.count(7), 4 + 3);
        DUE.is("up to the sixth step", corner.cell(0, 3, 3), 1);
        DUE.is("no further", corner.cell(0, 4, 3), 0);
    }

    private static void litAtThisMoment() {
        DUE.sentence("A cell is lit, if a candle that burns lights it, otherwise dark: always by the "
                + "candles that burn at this moment.");
        GhostCandles house = new GhostCandles();
        DUE.is("without candles", house.count(7), 0);
        house.candle(0, 0, 2);
        house.candle(6, 0, 1);
        DUE.is("by both", Houses.lit(house, 0), "#########");
        house.light(6, 0);
        DUE.is("by one", Houses.lit(house, 0), "#######..");
        house.light(6, 0);
        house.pass(1);
        DUE.is("burnt down", Houses.lit(house, 0), "#######..");
        house.wall(0, 0, 1);
        DUE.is("a wall", Houses.lit(house, 0), "#........");
        house.wall(1, 0, 3);
        DUE.is("no wall", Houses.lit(house, 0), "#######..");
        house.mirror(2, 0, true);
        DUE.is("a mirror", Houses.lit(house, 0), "###......");
        house.remove(2, 0);
        DUE.is("no mirror", Houses.lit(house, 0), "#######..");
        house.remove(0, 0);
        DUE.is("no candle", house.count(7), 0);
        house.candle(0, 0, 1);
        house.pass(1);
        DUE.is("none that burns", house.count(7), 0);
    }

    private static void shinesTheLeastAndTheMost() {
        DUE.sentence("Returns how many cells a candle that burns there, in the place of the thing "
                + "that the cell has, would light, if no other one burned (nothing is changed).");
        GhostCandles house = new GhostCandles();
        int[][] places = {{0, 0, 13}, {8, 0, 13}, {0, 6, 13}, {8, 6, 13}, {4, 0, 15}, {4, 6, 15},
            {0, 3, 13}, {8, 3, 13}, {4, 3, 15}, {2, 0, 15}, {1, 0, 14}, {6, 6, 15}, {7, 6, 14}};
        for (int[] place : places) {
            DUE.is("shines " + place[0] + " " + place[1], house.shines(place[0], place[1]), place[2]);
        }
        DUE.is("nothing is changed", house.digest(), new GhostCandles().digest());
        Houses.wallsAround(house, 4, 3);
        DUE.is("the least: walls all around", house.shines(4, 3), 1);
        Houses.wallsAround(house, 4, 3);
        house.mirror(8, 3, true);
        house.mirror(0, 3, true);
        house.mirror(4, 0, true);
        house.mirror(4, 6, true);
        DUE.is("the most: six steps in each direction", house.shines(4, 3), 1 + 4 * 6);
        GhostCandles full = Houses.full();
        long before = full.digest();
        for (int cell = 0; cell < 63; cell++) {
            DUE.is("in a full house", full.shines(cell % 9, cell / 9), 1);
        }
        DUE.is("nothing is changed", full.digest(), before);
    }

    private static void shinesInPlaceOfTheThing() {
        DUE.sentence("in the place of the thing that the cell has");
        // Each beam of the cell comes back to it round four cells, and leaves it straight on.
        GhostCandles house = new GhostCandles();
        house.mirror(5, 3, true);
        house.mirror(5, 2, false);
        house.mirror(4, 2, true);
        int due = 4 + 4 + 3;
        for (int thing = 1; thing <= 4; thing++) {
            set(house, 4, 3, thing);
            long before = house.digest();
            DUE.is("in the place of " + thing, house.shines(4, 3), due);
            DUE.is("nothing is changed", house.digest(), before);
            house.remove(4, 3);
        }
        house.candle(4, 3, 1);
        house.candle(0, 0, 60);
        DUE.is("another one burns", house.shines(4, 3), due);
        house.pass(1);
        DUE.is("in the place of a candle without wax", house.shines(4, 3), due);
        DUE.is("it is without wax still", house.cell(4, 3, 1), 0);
        DUE.is("it does not burn", house.cell(4, 3, 2), 0);
    }
}
