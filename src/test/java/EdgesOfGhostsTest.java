/** Each sentence about ghosts, their ways and their next steps that names a boundary case. */
public final class EdgesOfGhostsTest {
    private static final Due DUE = new Due("EdgesOfGhostsTest");

    public static void main(String[] args) {
        atMostSix();
        thereAreSix();
        asItComes();
        sendsLitOrDark();
        noSuchGhost();
        ghostTells();
        riteIfItMayPass();
        riteReturnsHowMany();
        ownCell();
        throughDarkCells();
        theLastOneDark();
        atMostOneWall();
        theLongestWay();
        noWay();
        nextIfItWouldStay();
        nextOfSeveral();
        DUE.end();
    }

    private static void atMostSix() {
        DUE.sentence("There are at most 6, numbered from 0 in the order of their coming; several can "
                + "be in one cell.");
        GhostCandles house = new GhostCandles();
        DUE.is("none", house.count(1), 0);
        for (int number = 0; number < 6; number++) {
            DUE.is("its number", house.come(8, 6, number / 2 + 1), number);
            DUE.is("ghosts", house.count(1), number + 1);
        }
        DUE.is("all in one cell", house.cell(8, 6, 4), 6);
        for (int number = 0; number < 6; number++) {
            DUE.is("paces by numbers", house.ghost(number, 2), number / 2 + 1);
        }
        GhostCandles apart = new GhostCandles();
        for (int number = 0; number < 6; number++) {
            apart.come(number, 6 - number, 1);
        }
        for (int number = 0; number < 6; number++) {
            DUE.is("cells by numbers", Houses.place(apart, number), number + " " + (6 - number));
        }
    }

    private static void thereAreSix() {
        DUE.sentence("Throws `IllegalStateException` if there are 6");
        GhostCandles house = new GhostCandles();
        for (int number = 0; number < 6; number++) {
            house.come(0, 0, 3);
        }
        DUE.badState(house, "the seventh", () -> house.come(8, 6, 1));
        DUE.badState(house, "the seventh, with them", () -> house.come(0, 0, 3));
        DUE.badArgument(house, "the seventh, without a pace", () -> house.come(0, 0, 0));
        DUE.badArgument(house, "the seventh, too fast", () -> house.come(0, 0, 4));
        DUE.outOfBounds(house, "the seventh, outside, too fast", () -> house.come(0, -1, 4));
        house.pass(40);
        DUE.badState(house, "the seventh, later", () -> house.come(8, 6, 1));
        DUE.is("ghosts", house.count(1), 6);
    }

    private static void asItComes() {
        DUE.sentence("Each has a pace, 1 to 3, and a goal (the cell to which it came, at first), and "
                + "may pass a wall (at first) or not.");
        GhostCandles house = new GhostCandles();
        house.candle(8, 6, 60);
        house.come(8, 6, 1);
        house.come(0, 0, 3);
        int[][] due = {{8, 6, 1, 8, 6, 1, 0, 0}, {0, 0, 3, 0, 0, 1, 0, 0}};
        for (int ghost = 0; ghost < 2; ghost++) {
            for (int what = 0; what <= 7; what++) {
                DUE.is("ghost(" + ghost + ", " + what + ")", house.ghost(ghost, what), due[ghost][what]);
            }
            DUE.is("next", house.next(ghost), -1);
        }
        DUE.is("nothing but ghosts has come", house.foresee(40, 3), 2);
    }

    private static void sendsLitOrDark() {
        DUE.sentence("Gives a ghost another goal, be it lit or dark.");
        GhostCandles house = new GhostCandles();
        house.come(0, 0, 1);
        house.candle(8, 6, 60);
        DUE.is("a lit goal", house.send(0, 8, 6), -1);
        isGoal(house, 8, 6);
        DUE.is("a dark goal", house.send(0, 7, 5), 12);
        isGoal(house, 7, 5);
        DUE.is("the first cell", house.send(0, 0, 0), 0);
        isGoal(house, 0, 0);
        house.candle(0, 0, 60);
        DUE.is("its own cell, which is lit", house.send(0, 0, 0), 0);
        isGoal(house, 0, 0);
        DUE.outOfBounds(house, "a goal outside", () -> house.send(0, 9, 0));
        DUE.outOfBounds(house, "a goal outside", () -> house.send(0, 0, 7));
        isGoal(house, 0, 0);
    }

    private static void isGoal(GhostCandles house, int x, int y) {
        DUE.is("the goal's x", house.ghost(0, 3), x);
        DUE.is("the goal's y", house.ghost(0, 4), y);
    }

    private static void noSuchGhost() {
        DUE.sentence("Throws `IndexOutOfBoundsException` if there is no such ghost");
        for (int ghosts = 0; ghosts <= 6; ghosts++) {
            GhostCandles house = new GhostCandles();
            for (int number = 0; number < ghosts; number++) {
                house.come(0, 0, 1);
                int it = number;
                DUE.is("send", house.send(it, 0, 0), 0);
                DUE.badState(house, "rite(" + it + ")", () -> house.rite(it));
                DUE.is("ghost", house.ghost(it, 5), 1);
                DUE.is("way", house.way(it, 0, 1), 1);
                DUE.is("next", house.next(it), -1);
            }
            for (int it : new int[] {-1, ghosts, 6, Integer.MIN_VALUE, Integer.MAX_VALUE}) {
                DUE.outOfBounds(house, "send(" + it + ")", () -> house.send(it, 0, 0));
                DUE.outOfBounds(house, "rite(" + it + ")", () -> house.rite(it));
                DUE.outOfBounds(house, "ghost(" + it + ")", () -> house.ghost(it, 0));
                DUE.outOfBounds(house, "way(" + it + ")", () -> house.way(it, 0, 0));
                DUE.outOfBounds(house, "next(" + it + ")", () -> house.next(it));
            }
        }
    }

    private static void ghostTells() {
        DUE.sentence("0 and 1 its cell, x and y, 2 its pace, 3 and 4 its goal, x and y, 5 1 if it may "
                + "pass a wall, else 0, 6 how often it haunted, 7 how often it was afraid");
        GhostCandles house = new GhostCandles();
        house.tally(8, 6);
        house.wall(7, 6, 1);
        house.come(7, 6, 2);
        house.send(0, 8, 6);
        house.pass(40);
        house.candle(8, 0, 60);
        house.pass(40);
        house.pass(19);
        house.send(0, 0, 0);
        int[] due = {8, 6, 2, 0, 0, 0, 40, 59};
        for (int what = 0; what <= 7; what++) {
            DUE.is("ghost(0, " + what + ")", house.ghost(0, what), due[what]);
        }
        DUE.outOfBounds(house, "ghost(0, 8)", () -> house.ghost(0, 8));
        DUE.outOfBounds(house, "ghost(0, -1)", () -> house.ghost(0, -1));
    }

    private static void riteIfItMayPass() {
        DUE.sentence("Throws `IllegalStateException` if it may pass one");
        GhostCandles house = new GhostCandles();
        house.wall(0, 0, 1);
        house.come(0, 0, 1);
        house.come(0, 0, 1);
        house.send(0, 1, 0);
        DUE.badState(house, "at first", () -> house.rite(0));
        house.pass(1);
        DUE.badState(house, "the other one, which has passed none", () -> house.rite(1));
        DUE.outOfBounds(house, "none such", () -> house.rite(2));
        DUE.is("it has passed one", house.rite(0), 2);
        DUE.badState(house, "a second time", () -> house.rite(0));
        house.send(0, 0, 0);
        house.pass(1);
        DUE.is("it has passed another one", house.rite(0), 2);
        DUE.is("it may again", house.ghost(0, 5), 1);
    }

    private static void riteReturnsHowMany() {
        DUE.sentence("Returns how many ghosts may pass a wall then.");
        GhostCandles house = new GhostCandles();
        house.wall(0, 0, 1);
        for (int ghost = 0; ghost < 6; ghost++) {
            house.come(0, 0, 3);
            house.send(ghost, 1, 0);
        }
        house.pass(1);
        DUE.is("all have passed", house.cell(1, 0, 4), 6);
        int[] order = {5, 0, 3, 1, 4, 2};
        for (int number = 0; number < 6; number++) {
            DUE.is("it may not", house.ghost(order[number], 5), 0);
            DUE.is("rite", house.rite(order[number]), number + 1);
            DUE.is("it may", house.ghost(order[number], 5), 1);
        }
    }

    private static void ownCell() {
        DUE.sentence("In its own cell it has a way of 0 steps there.");
        GhostCandles house = new GhostCandles();
        house.come(0, 0, 1);
        house.come(4, 3, 1);
        house.come(8, 6, 1);
        isAtItself(house);
        Houses.wallsAround(house, 4, 3);
        isAtItself(house);
        house.candle(0, 0, 9);
        house.candle(4, 3, 9);
        house.candle(8, 6, 9);
        isAtItself(house);
    }

    private static void isAtItself(GhostCandles house) {
        DUE.is("in the first cell", house.way(0, 0, 0), 0);
        DUE.is("in the middle", house.way(1, 4, 3), 0);
        DUE.is("in the last cell", house.way(2, 8, 6), 0);
    }

    private static void throughDarkCells() {
        DUE.sentence("A way of a ghost to a cell begins in its own cell, be it lit or dark, and goes "
                + "on from neighbour to neighbour through dark cells alone, the last one dark, too");
        // The light of (0, 3) goes to (6, 3), where a wall ends it or lets it pass to (6, 3) alone.
        GhostCandles house = new GhostCandles();
        house.candle(0, 3, 60);
        house.wall(0, 3, 0);
        house.wall(0, 3, 2);
        house.come(0, 2, 1);
        DUE.is("round the last lit cell", house.way(0, 0, 4), 7 + 2 + 7);
        house.candle(8, 3, 60);
        house.wall(8, 3, 0);
        house.wall(8, 3, 2);
        DUE.is("all of a row is lit", house.way(0, 0, 4), -1);
        house.wall(0, 2, 2);
        DUE.is("a wall that was pulled down does not help", house.way(0, 0, 4), -1);
        house.come(3, 3, 1);
        DUE.is("out of the light, up", house.way(1, 3, 2), 1);
        DUE.is("out of the light, down", house.way(1, 3, 6), 3);
        DUE.is("not along it", house.way(1, 4, 3), -1);
        DUE.is("not out of it and in it again", house.way(1, 5, 3), -1);
        DUE.is("out of it and on", house.way(1, 4, 4), 2);
        house.light(8, 3);
        DUE.is("the last three are dark again", house.way(0, 8, 4), 8 + 2);
    }

    private static void theLastOneDark() {
        DUE.sentence("the last one dark, too");
        GhostCandles house = new GhostCandles();
        house.come(0, 0, 1);
        house.candle(1, 0, 60);
        Houses.wallsAround(house, 1, 0);
        DUE.is("a lit neighbour behind a wall", house.way(0, 1, 0), -1);
        house.light(1, 0);
        DUE.is("a dark one", house.way(0, 1, 0), 1);
        house.wall(0, 0, 1);
        DUE.is("a dark one without a wall", house.way(0, 1, 0), 1);
        house.light(1, 0);
        DUE.is("a lit one, and so is its own", house.way(0, 1, 0), -1);
    }

    private static void atMostOneWall() {
        DUE.sentence("there is no wall between them, but, if the ghost may pass a wall, between two of "
                + "them one after the other at most once");
        GhostCandles house = new GhostCandles();
        house.come(0, 0, 1);
        for (int y = 0; y < 7; y++) {
            house.wall(2, y, 1);
        }
        DUE.is("one wall", house.way(0, 8, 0), 8);
        for (int y = 0; y < 6; y++) {
            house.wall(5, y, 1);
        }
        DUE.is("one wall, and round the second one", house.way(0, 8, 0), 8 + 6 + 6);
        DUE.is("before the second one", house.way(0, 5, 0), 5);
        house.wall(5, 6, 1);
        DUE.is("two walls", house.way(0, 8, 0), -1);
        house.wall(2, 6, 1);
        DUE.is("round the first one, and one wall", house.way(0, 8, 0), 8 + 6 + 6);
        house.wall(0, 0, 1);
        house.wall(0, 0, 2);
        DUE.is("walled in: the wall is passed there", house.way(0, 2, 0), 2);
        DUE.is("and no other", house.way(0, 8, 0), -1);
        house.send(0, 1, 0);
        house.pass(1);
        DUE.is("none any more", house.way(0, 0, 0), -1);
        DUE.is("none of the others", house.way(0, 8, 0), -1);
        house.rite(0);
        DUE.is("again", house.way(0, 8, 0), 7 + 6 + 6);
    }

    private static void theLongestWay() {
        DUE.sentence("Returns the fewest steps of a way of the ghost to this cell now; -1 if it has "
                + "none.");
        GhostCandles house = new GhostCandles();
        // One corridor through all cells, row by row to and fro.
        for (int y = 0; y < 6; y++) {
            for (int x = 0; x < 9; x++) {
                if (x != (y % 2 == 0 ? 8 : 0)) {
                    house.wall(x, y, 2);
                }
            }
        }
        house.come(0, 0, 3);
        DUE.is("with a wall passed it is shorter", house.way(0, 8, 6), 62 - 16);
        DUE.is("a wall or no wall", house.send(0, 0, 1), 1);
        house.pass(1);
        DUE.is("it passed one", house.ghost(0, 5), 0);
        DUE.is("back without", house.send(0, 0, 0), 17);
        house.pass(5);
        DUE.is("before the last hour", Houses.place(house, 0), "2 0");
        house.pass(1);
        DUE.is("back", Houses.place(house, 0), "0 0");
        for (int cell = 0; cell < 63; cell++) {
            int x = cell % 9;
            int y = cell / 9;
            int due = 9 * y + (y % 2 == 0 ? x : 8 - x);
            DUE.is("way to " + x + " " + y, house.way(0, x, y), due);
        }
        DUE.is("from the one end to the other", house.send(0, 8, 6), 62);
        DUE.is("its first step", house.next(0), 1);
        house.pass(20);
        DUE.is("behind 60 steps", Houses.place(house, 0), "6 6");
        DUE.is("back from there", house.way(0, 0, 0), 60);
        house.pass(1);
        DUE.is("behind 62", Houses.place(house, 0), "8 6");
        DUE.is("from the other end to the one", house.way(0, 0, 0), 62);
        house.wall(0, 0, 1);
        DUE.is("the last step is walled", house.way(0, 0, 0), -1);
        DUE.is("the last but one", house.way(0, 1, 0), 61);
    }

    private static void noWay() {
        DUE.sentence("-1 if it has none");
        GhostCandles house = new GhostCandles();
        house.come(4, 3, 1);
        house.candle(4, 0, 60);
        house.candle(0, 3, 60);
        for (int cell = 0; cell < 63; cell++) {
            int x = cell % 9;
            int y = cell / 9;
            DUE.is("light on all sides", house.way(0, x, y), x == 4 && y == 3 ? 0 : -1);
        }
        DUE.is("send", house.send(0, 8, 6), -1);
        DUE.is("next", house.next(0), -1);
        house.pass(1);
        DUE.is("it stays", Houses.place(house, 0), "4 3");
        house.light(0, 3);
        DUE.is("dark at its sides", house.way(0, 8, 6), 7);
    }

    private static void nextIfItWouldStay() {
        DUE.sentence("Returns the direction of the step that it would take now; -1 if it would stay.");
        GhostCandles house = new GhostCandles();
        house.come(8, 6, 3);
        DUE.is("at its goal", house.next(0), -1);
        house.send(0, 8, 5);
        DUE.is("up", house.next(0), 0);
        house.send(0, 7, 6);
        DUE.is("left", house.next(0), 3);
        house.candle(0, 6, 60);
        DUE.is("dark behind the sixth step", house.next(0), 3);
        house.candle(1, 6, 60);
        DUE.is("lit by the other one", house.next(0), -1);
        house.send(0, 8, 6);
        house.candle(8, 6, 60);
        DUE.is("at its goal in the light", house.next(0), -1);
        GhostCandles corner = new GhostCandles();
        corner.come(0, 0, 1);
        corner.send(0, 0, 1);
        DUE.is("down", corner.next(0), 2);
        corner.send(0, 1, 0);
        DUE.is("right", corner.next(0), 1);
    }

    private static void nextOfSeveral() {
        DUE.sentence("Otherwise it goes to the neighbour with which a way of the fewest steps begins; "
                + "of several, to one without a wall between, if there is such a one; of these to the "
                + "first one by directions.");
        // A lit cell is between the ghost and its goal: it goes round, on either side.
        int[][] goals = {{6, 3, 0, 2}, {2, 3, 0, 2}, {4, 5, 1, 3}, {4, 1, 1, 3}};
        for (int[] goal : goals) {
            GhostCandles house = new GhostCandles();
            int x = (4 + goal[0]) / 2;
            int y = (3 + goal[1]) / 2;
            house.candle(x, y, 60);
            Houses.wallsAround(house, x, y);
            house.come(4, 3, 1);
            DUE.is("round the light", house.send(0, goal[0], goal[1]), 4);
            DUE.is("the first by directions", house.next(0), goal[2]);
            house.wall(4, 3, goal[2]);
            DUE.is("the one without a wall", house.next(0), goal[3]);
            house.wall(4, 3, goal[3]);
            DUE.is("walls in both: the first by directions", house.next(0), goal[2]);
            house.wall(4, 3, goal[2]);
            DUE.is("the one without a wall, the first", house.next(0), goal[2]);
        }
        GhostCandles both = new GhostCandles();
        both.come(0, 0, 1);
        both.send(0, 2, 1);
        both.wall(1, 0, 2);
        DUE.is("ways with a wall and without begin with the same step", both.next(0), 1);
        nextPastWalls();
    }

    private static void nextPastWalls() {
        GhostCandles wall = new GhostCandles();
        wall.come(4, 3, 1);
        wall.wall(4, 3, 1);
        DUE.is("a wall that is shorter", wall.send(0, 5, 3), 1);
        DUE.is("goes before ways without", wall.next(0), 1);
        wall.send(0, 5, 4);
        DUE.is("a wall that is as short goes behind", wall.next(0), 2);
        wall.wall(4, 4, 1);
        DUE.is("though another wall comes later", wall.next(0), 2);
        wall.wall(4, 3, 2);
        DUE.is("walls in both, and one more behind one", wall.next(0), 1);
        wall.wall(5, 3, 2);
        DUE.is("one more behind both: round them", wall.way(0, 5, 4), 4);
        DUE.is("by the first without a wall: up, and not right or left", wall.next(0), 0);
        wall.wall(4, 3, 0);
        DUE.is("by the only one without a wall: left", wall.next(0), 3);
    }
}
