/** Each sentence of the document that names no boundary case, from its first line to its last. */
public final class PlainSentencesTest {
    private static final Due DUE = new Due("PlainSentencesTest");

    public static void main(String[] args) {
        throughTheDark();
        straightBeams();
        talliesCount();
        itIsTold();
        timeIsToldInHours();
        theNeighbourOfACell();
        aBeamInEachDirection();
        aMirrorLeans();
        aThrowChangesNothing();
        theFirstNamedIsThrown();
        buildsAndPullsDown();
        takesTheThingAway();
        lightsOrPutsOut();
        aGhostComes();
        sendAsWayTells();
        passesAgain();
        letsHoursGoBy();
        foreseesWhatComes();
        reachesWhatComes();
        advisesAsLightDoesIt();
        digestInOrder();
        DUE.end();
    }

    private static void throughTheDark() {
        DUE.sentence("Ghosts go to their goals through the dark, and each may pass a wall once");
        // Light parts the house, but for a wall that leaves (4, 0) dark.
        GhostCandles house = new GhostCandles();
        house.candle(4, 6, 60);
        house.wall(4, 1, 0);
        house.come(0, 4, 1);
        DUE.is("round the light", house.send(0, 8, 4), 4 + 8 + 4);
        house.wall(4, 0, 1);
        DUE.is("round the light, through a wall", house.way(0, 8, 4), 16);
        house.wall(3, 0, 1);
        DUE.is("not through two", house.way(0, 8, 4), -1);
        house.wall(3, 0, 1);
        for (int hour = 1; hour <= 16; hour++) {
            house.pass(1);
            DUE.is("steps that are left, hour " + hour, house.way(0, 8, 4), 16 - hour);
            DUE.is("in the dark, hour " + hour, house.ghost(0, 7), 0);
            int steps = house.ghost(0, 0) + 4;
            DUE.is("it may pass a wall, hour " + hour, house.ghost(0, 5), steps <= 8 ? 1 : 0);
        }
        DUE.is("at its goal", Houses.place(house, 0), "8 4");
        DUE.is("not back through it", house.way(0, 0, 4), -1);
    }

    private static void straightBeams() {
        DUE.sentence("candles burn down, and light the house by straight beams, which mirrors turn");
        GhostCandles house = new GhostCandles();
        house.candle(1, 5, 3);
        house.mirror(4, 5, true);
        for (int wax = 3; wax > 0; wax--) {
            DUE.is("wax", house.cell(1, 5, 1), wax);
            DUE.is("to the mirror", Houses.lit(house, 5), "#####....");
            DUE.is("up from it", Houses.lit(house, 4), ".#..#....");
            DUE.is("up from it, three steps", Houses.lit(house, 2), ".#..#....");
            DUE.is("not four", Houses.lit(house, 1), ".#.......");
            house.pass(1);
        }
        DUE.is("burnt down", house.count(7), 0);
    }

    private static void talliesCount() {
        DUE.sentence("tallies count hauntings, and are haunted themselves");
        GhostCandles house = new GhostCandles();
        house.tally(2, 2);
        house.tally(6, 2);
        house.come(2, 2, 1);
        house.come(6, 2, 1);
        house.come(6, 2, 2);
        DUE.is("pass(4)", house.pass(4), 4 + 8);
        DUE.is("one ghost", house.cell(2, 2, 1), 4);
        DUE.is("two ghosts", house.cell(6, 2, 1), 8);
        // Two more hauntings make 10; the next ones 11 and 12; then 13, which is 31, and 32.
        DUE.is("pass(3)", house.pass(3), 3 + 6);
        DUE.is("the one counts on", house.cell(2, 2, 1), 7);
        DUE.is("the other one is haunted", house.cell(6, 2, 1), 32);
    }

    private static void itIsTold() {
        DUE.sentence("and it is told what is lit, which way a ghost has, where it goes next, how often "
                + "there will be hauntings, when a tally comes to a number, and which candle had best be "
                + "lit or put out");
        GhostCandles house = new GhostCandles();
        house.tally(6, 3);
        house.candle(6, 5, 30);
        house.come(6, 1, 1);
        house.send(0, 6, 0);
        house.come(0, 3, 2);
        DUE.is("no way into the light", house.send(1, 6, 3), -1);
        DUE.is("what is lit", house.cell(6, 3, 3), 1);
        DUE.is("put out", house.light(6, 5), false);
        DUE.is("what is dark", house.cell(6, 3, 3), 0);
        DUE.is("which way it has", house.way(1, 6, 3), 6);
        DUE.is("where it goes next", house.next(1), 1);
        DUE.is("how often there will be hauntings", house.foresee(8, 0), 6);
        DUE.is("when the tally comes to a number", house.reaches(6, 3, 4), 6);
        DUE.is("which candle had best be lit", house.advise(8), 9 * 5 + 6);
        house.tally(2, 0);
        house.come(2, 0, 1);
        house.send(2, 6, 4);
        house.light(6, 5);
        DUE.is("it stays, as its goal is lit, and haunts", house.foresee(1, 0), 1);
        DUE.is("which candle had best be put out", house.advise(1), 9 * 5 + 6);
    }

    private static void timeIsToldInHours() {
        DUE.sentence("Time is told in hours, from 0.");
        GhostCandles house = new GhostCandles();
        int due = 0;
        for (int hours = 0; hours <= 40; hours++) {
            DUE.is("the hour", house.count(0), due);
            if (hours < 40) {
                house.pass(hours + 1);
                due += hours + 1;
            }
        }
        DUE.is("the hours 1 to 40, added", house.count(0), 20 * 41);
    }

    private static void theNeighbourOfACell() {
        DUE.sentence("the neighbour of a cell in a direction is the cell there, if there is one");
        for (int cell = 0; cell < 63; cell++) {
            GhostCandles house = new GhostCandles();
            int x = cell % 9;
            int y = cell / 9;
            house.come(x, y, 1);
            for (int direction = 0; direction < 4; direction++) {
                int to = direction;
                int nextX = x + Houses.STEP_X[direction];
                int nextY = y + Houses.STEP_Y[direction];
                if (!Houses.isInside(nextX, nextY)) {
                    DUE.badState(house, "there is none", () -> house.wall(x, y, to));
                    continue;
                }
                DUE.is("a step away", house.send(0, nextX, nextY), 1);
                DUE.is("in the direction", house.next(0), direction);
                DUE.is("a wall between", house.wall(x, y, direction), true);
                DUE.is("it is the other one's, too", house.walled(nextX, nextY, (direction + 2) % 4), true);
                DUE.is("pulled down by the other one", house.wall(nextX, nextY, (direction + 2) % 4), false);
            }
        }
    }

    private static void aBeamInEachDirection() {
        DUE.sentence("A candle that burns lights its own cell, and from there sends a beam in each "
                + "direction");
        for (int from = 0; from < 63; from++) {
            GhostCandles house = new GhostCandles();
            house.candle(from % 9, from / 9, 60);
            int lit = 0;
            for (int cell = 0; cell < 63; cell++) {
                int acrossX = Math.abs(cell % 9 - from % 9);
                int acrossY = Math.abs(cell / 9 - from / 9);
                int due = acrossX == 0 || acrossY == 0 && acrossX <= 6 ? 1 : 0;
                DUE.is("candle " + from + ", cell " + cell, house.cell(cell % 9, cell / 9, 3), due);
                lit += due;
            }
            DUE.is("cells that are lit", house.count(7), lit);
            DUE.is("shines", house.shines(from % 9, from / 9), lit);
            house.light(from % 9, from / 9);
            DUE.is("one that does not burn lights none", house.count(7), 0);
        }
    }

    private static void aMirrorLeans() {
        DUE.sentence("A mirror leans to the right or to the left.");
        for (int from = 0; from < 63; from += 31) {
            GhostCandles house = new GhostCandles();
            int x = from % 9;
            int y = from / 9;
            house.mirror(x, y, true);
            DUE.is("to the right", house.cell(x, y, 0), 2);
            DUE.is("taken away", house.remove(x, y), 2);
            house.mirror(x, y, false);
            DUE.is("to the left", house.cell(x, y, 0), 3);
            DUE.is("taken away", house.remove(x, y), 3);
        }
        DUE.sentence("whether it leans to the right, otherwise to the left");
        GhostCandles house = new GhostCandles();
        house.candle(0, 3, 60);
        house.mirror(3, 3, true);
        DUE.is("up", house.cell(3, 2, 3), 1);
        DUE.is("not down", house.cell(3, 4, 3), 0);
        house.remove(3, 3);
        house.mirror(3, 3, false);
        DUE.is("not up", house.cell(3, 2, 3), 0);
        DUE.is("down", house.cell(3, 4, 3), 1);
    }

    private static GhostCandles furnished() {
        GhostCandles house = new GhostCandles();
        house.candle(2, 2, 9);
        house.candle(6, 6, 12);
        house.candle(8, 0, 2);
        house.mirror(6, 3, true);
        house.mirror(4, 2, false);
        house.tally(0, 0);
        house.tally(7, 4);
        house.tally(8, 6);
        house.wall(0, 0, 1);
        house.wall(0, 1, 1);
        house.wall(6, 4, 1);
        house.wall(7, 6, 0);
        house.wall(2, 3, 0);
        return house;
    }

    /** A house in which ghosts walk, pass walls, haunt and are afraid, made in 21 calls. */
    private static GhostCandles lively() {
        GhostCandles house = furnished();
        house.come(1, 0, 1);
        house.send(0, 0, 0);
        house.come(4, 5, 2);
        house.send(1, 7, 4);
        house.come(0, 6, 3);
        house.send(2, 8, 6);
        house.come(1, 4, 1);
        house.send(3, 6, 2);
        return house;
    }

    private static void aThrowChangesNothing() {
        DUE.sentence("A method that throws an exception changes nothing.");
        GhostCandles house = lively();
        GhostCandles other = lively();
        for (int hour = 0; hour < 12; hour++) {
            refuseAll(house);
            for (int ghost = 0; ghost < 4; ghost++) {
                DUE.is("next", house.next(ghost), other.next(ghost));
                DUE.is("way", house.way(ghost, 5, 5), other.way(ghost, 5, 5));
            }
            DUE.is("mean", house.mean(), other.mean());
            DUE.is("foresee", house.foresee(20, 0), other.foresee(20, 0));
            DUE.is("advise", house.advise(8), other.advise(8));
            DUE.is("pass", house.pass(1), other.pass(1));
            DUE.is("digest", house.digest(), other.digest());
        }
    }

    /** One refused call of each method that refuses any, 20 in all. */
    private static void refuseAll(GhostCandles house) {
        Due.Call[] calls = {
            () -> house.wall(8, 6, 1), () -> house.candle(2, 2, 60), () -> house.mirror(2, 2, true),
            () -> house.tally(7, 4), () -> house.remove(3, 3), () -> house.light(7, 4),
            () -> house.come(0, 0, 4), () -> house.send(0, 9, 0), () -> house.rite(4),
            () -> house.cell(2, 2, 5), () -> house.walled(2, 2, 4), () -> house.ghost(0, 8),
            () -> house.count(10), () -> house.shines(2, 7), () -> house.way(0, 0, 7),
            () -> house.next(4), () -> house.pass(41), () -> house.foresee(40, 4),
            () -> house.reaches(0, 0, 100), () -> house.advise(9)
        };
        for (int call = 0; call < calls.length; call++) {
            boolean thrown = Due.answerOrThrown(calls[call]).toString().startsWith("throws");
            DUE.is("refused call " + call + " throws", thrown, true);
        }
    }

    private static void theFirstNamedIsThrown() {
        DUE.sentence("If several exceptions apply, the one that is named first is thrown.");
        GhostCandles full = Houses.full();
        DUE.outOfBounds(full, "wall: cell, direction", () -> full.wall(9, 0, 4));
        DUE.badArgument(full, "wall: direction, neighbour", () -> full.wall(8, 6, 4));
        DUE.outOfBounds(full, "candle: cell, wax, too many", () -> full.candle(-1, 0, 61));
        DUE.badArgument(full, "candle: wax, too many, a thing", () -> full.candle(0, 0, 61));
        DUE.outOfBounds(full, "mirror: cell, too many", () -> full.mirror(0, 7, true));
        DUE.outOfBounds(full, "tally: cell, too many", () -> full.tally(0, -1));
        DUE.outOfBounds(full, "remove: cell, nothing there", () -> full.remove(9, 6));
        DUE.outOfBounds(full, "light: cell, no candle", () -> full.light(8, 7));
        DUE.outOfBounds(full, "come: cell, pace, too many", () -> full.come(9, 7, 0));
        DUE.badArgument(full, "come: pace, too many", () -> full.come(8, 6, 0));
        DUE.outOfBounds(full, "rite: no such ghost", () -> full.rite(6));
        DUE.outOfBounds(full, "walled: cell, direction", () -> full.walled(9, 0, -1));
        DUE.badArgument(full, "foresee: hours, what", () -> full.foresee(41, 4));
        DUE.outOfBounds(full, "reaches: cell, marks", () -> full.reaches(0, 7, 100));
    }

    private static void buildsAndPullsDown() {
        DUE.sentence("Builds a wall between a cell and its neighbour, or pulls it down, if there is one.");
        GhostCandles house = new GhostCandles();
        house.candle(0, 3, 60);
        house.come(4, 2, 1);
        for (int time = 0; time < 3; time++) {
            DUE.is("built", house.wall(4, 2, 2), true);
            DUE.is("a wall", house.walled(4, 3, 0), true);
            DUE.is("built", house.wall(3, 3, 1), true);
            DUE.is("light ends at it", Houses.lit(house, 3), "####.....");
            DUE.is("the ghost has a way", house.way(0, 4, 3), 1);
            DUE.is("pulled down", house.wall(4, 2, 2), false);
            DUE.is("no wall", house.walled(4, 3, 0), false);
            DUE.is("pulled down", house.wall(3, 3, 1), false);
            DUE.is("light goes on", Houses.lit(house, 3), "#######..");
            DUE.is("the ghost has no way", house.way(0, 4, 3), -1);
        }
    }

    private static void takesTheThingAway() {
        DUE.sentence("Takes the thing of a cell away.");
        GhostCandles house = lively();
        house.come(2, 2, 1);
        int[][] things = {{2, 2, 1}, {6, 3, 2}, {4, 2, 3}, {7, 4, 4}};
        int left = house.count(2) + house.count(4) + house.count(5);
        int walls = house.count(6);
        for (int[] thing : things) {
            DUE.is("what it was", house.remove(thing[0], thing[1]), thing[2]);
            DUE.is("the cell has none", house.cell(thing[0], thing[1], 0), 0);
            DUE.is("no wax and no marks", house.cell(thing[0], thing[1], 1), 0);
            DUE.is("no flame", house.cell(thing[0], thing[1], 2), 0);
            left--;
            DUE.is("the others are left", house.count(2) + house.count(4) + house.count(5), left);
        }
        DUE.is("ghosts are left, too", house.cell(2, 2, 4), 1);
        DUE.is("walls are left, too", house.count(6), walls);
    }

    private static void lightsOrPutsOut() {
        DUE.sentence("Lights the candle of a cell, or puts it out, if it burns.");
        GhostCandles house = new GhostCandles();
        house.candle(3, 3, 9);
        house.candle(5, 5, 9);
        for (int time = 0; time < 4; time++) {
            DUE.is("put out", house.light(3, 3), false);
            DUE.is("it does not burn", house.cell(3, 3, 2), 0);
            DUE.is("the other one does", house.cell(5, 5, 2), 1);
            house.pass(1);
            DUE.is("its wax is left", house.cell(3, 3, 1), 9 - time);
            DUE.is("lit", house.light(3, 3), true);
            DUE.is("it burns", house.cell(3, 3, 2), 1);
            house.pass(1);
            DUE.is("it has less", house.cell(3, 3, 1), 8 - time);
        }
        DUE.is("the other one burnt all the time", house.cell(5, 5, 1), 1);
    }

    private static void aGhostComes() {
        DUE.sentence("A ghost comes; it may pass a wall.");
        GhostCandles house = new GhostCandles();
        house.wall(5, 5, 1);
        DUE.is("its number", house.come(5, 5, 2), 0);
        DUE.is("there", house.cell(5, 5, 4), 1);
        DUE.is("it may", house.ghost(0, 5), 1);
        DUE.is("through the wall", house.send(0, 6, 5), 1);
        house.pass(1);
        DUE.is("it may not", house.ghost(0, 5), 0);
        DUE.sentence("Returns its number.");
        DUE.is("another one", house.come(5, 5, 3), 1);
        DUE.is("it may", house.ghost(1, 5), 1);
        DUE.is("the first may not still", house.ghost(0, 5), 0);
        DUE.is("its cell and pace", Houses.place(house, 1) + " " + house.ghost(1, 2), "5 5 3");
        DUE.is("the first one's", Houses.place(house, 0) + " " + house.ghost(0, 2), "6 5 2");
    }

    private static void sendAsWayTells() {
        DUE.sentence("Returns the steps of its shortest way there now, as way() tells them.");
        for (int ghost = 0; ghost < 4; ghost++) {
            for (int hours = 0; hours < 2; hours++) {
                GhostCandles house = lively();
                if (hours > 0) {
                    house.pass(6);
                }
                for (int cell = 0; cell < 63; cell++) {
                    int steps = house.way(ghost, cell % 9, cell / 9);
                    DUE.is("send", house.send(ghost, cell % 9, cell / 9), steps);
                    DUE.is("way, when it is its goal", house.way(ghost, cell % 9, cell / 9), steps);
                    DUE.is("it goes or stays", house.next(ghost) >= 0, steps > 0);
                }
            }
        }
    }

    private static void passesAgain() {
        DUE.sentence("Lets a ghost pass a wall again.");
        GhostCandles house = new GhostCandles();
        house.wall(4, 4, 1);
        house.wall(4, 4, 0);
        house.wall(4, 4, 2);
        house.wall(4, 4, 3);
        house.come(4, 4, 1);
        house.come(0, 0, 1);
        for (int time = 0; time < 3; time++) {
            DUE.is("out", house.send(0, 5, 4), 1);
            house.pass(1);
            DUE.is("it is out", Houses.place(house, 0), "5 4");
            DUE.is("no way back", house.way(0, 4, 4), -1);
            DUE.is("both may", house.rite(0), 2);
            DUE.is("back", house.send(0, 4, 4), 1);
            house.pass(1);
            DUE.is("it is back", Houses.place(house, 0), "4 4");
            DUE.is("no way out", house.way(0, 5, 4), -1);
            DUE.is("both may", house.rite(0), 2);
        }
    }

    private static void letsHoursGoBy() {
        DUE.sentence("Lets hours go by.");
        for (int hours = 1; hours <= 40; hours++) {
            GhostCandles house = lively();
            GhostCandles other = lively();
            int haunts = 0;
            for (int hour = 0; hour < hours; hour++) {
                haunts += other.pass(1);
            }
            DUE.is("pass(" + hours + ")", house.pass(hours), haunts);
            DUE.is("the hour", house.count(0), hours);
            DUE.is("haunted in all", house.count(8), haunts);
            DUE.is("as hour by hour", house.digest(), other.digest());
        }
    }

    private static final String[] GOALS = {"0 0", "7 4", "8 6", "6 2"};

    private static void foreseesWhatComes() {
        DUE.sentence("Returns this, if nothing is done (nothing is changed).");
        GhostCandles house = lively();
        GhostCandles other = lively();
        long before = house.digest();
        int haunts = 0;
        for (int hours = 1; hours <= 40; hours++) {
            haunts += other.pass(1);
            int atGoals = 0;
            for (int ghost = 0; ghost < 4; ghost++) {
                atGoals += Houses.place(other, ghost).equals(GOALS[ghost]) ? 1 : 0;
            }
            int[] due = {haunts, other.count(3), other.count(7), atGoals};
            for (int what = 0; what <= 3; what++) {
                DUE.is("foresee(" + hours + ", " + what + ")", house.foresee(hours, what), due[what]);
            }
        }
        DUE.is("nothing is changed", house.digest(), before);
        DUE.is("some haunt", haunts > 0, true);
    }

    private static void reachesWhatComes() {
        DUE.sentence("Returns behind how many hours the tally of the cell has just so many marks, if "
                + "nothing is done");
        int[][] tallies = {{0, 0}, {7, 4}, {8, 6}};
        for (int[] at : tallies) {
            int[] first = new int[100];
            GhostCandles other = lively();
            for (int hours = 0; hours <= 60; hours++) {
                int marks = other.cell(at[0], at[1], 1);
                first[marks] = first[marks] == 0 ? hours + 1 : first[marks];
                other.pass(1);
            }
            GhostCandles house = lively();
            long before = house.digest();
            for (int marks = 0; marks <= 99; marks++) {
                DUE.is("reaches " + marks, house.reaches(at[0], at[1], marks), first[marks] - 1);
            }
            DUE.is("nothing is changed", house.digest(), before);
        }
    }

    private static void advisesAsLightDoesIt() {
        DUE.sentence("Looks for the candle that had best be lit now, or put out, as light() does it, so "
                + "that ghosts haunt the least often in so many hours.");
        int found = 0;
        for (int passed = 0; passed <= 30; passed += 3) {
            for (int hours = 1; hours <= 8; hours++) {
                int fewest = behind(passed).pass(hours);
                int best = -1;
                for (int cell = 0; cell < 63; cell++) {
                    GhostCandles other = behind(passed);
                    int at = cell;
                    Object lit = Due.answerOrThrown(() -> other.light(at % 9, at / 9));
                    int haunts = lit instanceof Boolean ? other.pass(hours) : fewest;
                    if (haunts < fewest) {
                        fewest = haunts;
                        best = cell;
                    }
                }
                DUE.is("advise(" + hours + ") behind " + passed, behind(passed).advise(hours), best);
                found += best >= 0 ? 1 : 0;
            }
        }
        DUE.is("some candles are better than none", found > 0, true);
    }

    private static GhostCandles behind(int hours) {
        GhostCandles house = lively();
        house.candle(7, 1, 60);
        house.light(7, 1);
        house.candle(0, 5, 60);
        house.light(0, 5);
        if (hours > 0) {
            house.pass(hours);
        }
        return house;
    }

    private static void digestInOrder() {
        DUE.sentence("what count() tells, in its order; for each cell, by 9 * y + x, what cell() tells, "
                + "in its order");
        DUE.is("without ghosts", furnished().digest(), digestOfCells(furnished(), furnished()));
        DUE.sentence("for each ghost what ghost() tells, in its order. Returns d.");
        GhostCandles house = behind(5);
        long due = digestOfCells(behind(5), house);
        for (int ghost = 0; ghost < 4; ghost++) {
            for (int what = 0; what <= 7; what++) {
                due = due * 31 + house.ghost(ghost, what);
            }
        }
        DUE.is("with ghosts", house.digest(), due);
    }

    /** Of two houses that are alike, as one has not calls enough. */
    private static long digestOfCells(GhostCandles house, GhostCandles alike) {
        long due = 1009;
        for (int what = 0; what <= 9; what++) {
            due = due * 31 + house.count(what);
        }
        for (int y = 0; y < 7; y++) {
            for (int x = 0; x < 9; x++) {
                for (int what = 0; what <= 4; what++) {
                    due = due * 31 + house.cell(x, y, what);
                }
                due = due * 31 + (x < 8 && alike.walled(x, y, 1) ? 1 : 0);
                due = due * 31 + (y < 6 && alike.walled(x, y, 2) ? 1 : 0);
            }
        }
        return due;
    }
}
