/** A house of ghosts, candles and mirrors. */
public final class GhostCandles {

    private static final int WIDTH = 9;
    private static final int HEIGHT = 7;
    private static final int CELLS = 63;

    private static final int UP = 0;
    private static final int RIGHT = 1;
    private static final int DOWN = 2;
    private static final int LEFT = 3;
    private static final int DIRECTIONS = 4;

    private static final int NOTHING = 0;
    private static final int CANDLE = 1;
    private static final int MIRROR_TO_RIGHT = 2;
    private static final int MIRROR_TO_LEFT = 3;
    private static final int TALLY = 4;

    private static final int MOST_CANDLES = 10;
    private static final int MOST_MIRRORS = 10;
    private static final int MOST_TALLIES = 6;
    private static final int MOST_GHOSTS = 6;
    private static final int MOST_WAX = 60;
    private static final int MOST_MARKS = 99;
    private static final int MOST_PACE = 3;
    private static final int MOST_BEAM_STEPS = 6;
    private static final int SWAPPING_DIVISOR = 13;

    private static final int MOST_HOURS = 40;
    private static final int MOST_HOURS_OF_ADVICE = 8;
    private static final int MOST_HOURS_TO_REACH = 60;

    private static final int COUNT_KINDS = 10;
    private static final int CELL_KINDS = 5;
    private static final int FORESEE_KINDS = 4;

    private static final int NONE = -1;

    private final Night now = new Night();
    /** A copy to look ahead with: made once, as a run's calls share one room. */
    private final Night ahead = new Night();

    public GhostCandles() {
    }

    // ---- walls and things

    public boolean wall(int x, int y, int direction)
            throws IndexOutOfBoundsException, IllegalArgumentException, IllegalStateException {
        int cell = checkedCell(x, y);
        checkDirection(direction);
        if (Grid.isRim(cell, direction)) {
            throw new IllegalStateException("there is no such neighbour");
        }
        now.house.switchWall(cell, direction);
        return now.house.hasWall(cell, direction);
    }

    public int candle(int x, int y, int wax)
            throws IndexOutOfBoundsException, IllegalArgumentException, IllegalStateException {
        int cell = checkedCell(x, y);
        if (wax < 1 || wax > MOST_WAX) {
            throw new IllegalArgumentException("wax is not 1 to 60");
        }
        checkRoomFor(now.house.candleCount(), MOST_CANDLES, cell);
        now.house.addCandle(cell, wax);
        return now.house.candleCount();
    }

    public int mirror(int x, int y, boolean toRight)
            throws IndexOutOfBoundsException, IllegalStateException {
        int cell = checkedCell(x, y);
        checkRoomFor(now.house.mirrorCount(), MOST_MIRRORS, cell);
        now.house.addMirror(cell, toRight);
        return now.house.mirrorCount();
    }

    public int tally(int x, int y) throws IndexOutOfBoundsException, IllegalStateException {
        int cell = checkedCell(x, y);
        checkRoomFor(now.house.tallyCount(), MOST_TALLIES, cell);
        now.house.addTally(cell);
        return now.house.tallyCount();
    }

    public int remove(int x, int y) throws IndexOutOfBoundsException, IllegalStateException {
        int cell = checkedCell(x, y);
        int thing = now.house.thingIn(cell);
        if (thing == NOTHING) {
            throw new IllegalStateException("the cell has no thing");
        }
        now.house.clear(cell);
        return thing;
    }

    public boolean light(int x, int y) throws IndexOutOfBoundsException, IllegalStateException {
        int cell = checkedCell(x, y);
        if (!now.house.hasCandleWithWax(cell)) {
            throw new IllegalStateException("there is no candle in the cell, or it has no wax");
        }
        now.house.switchCandle(cell);
        return now.house.isBurning(cell);
    }

    // ---- ghosts

    public int come(int x, int y, int pace)
            throws IndexOutOfBoundsException, IllegalArgumentException, IllegalStateException {
        int cell = checkedCell(x, y);
        if (pace < 1 || pace > MOST_PACE) {
            throw new IllegalArgumentException("pace is not 1 to 3");
        }
        if (now.ghostCount >= MOST_GHOSTS) {
            throw new IllegalStateException("there are 6 ghosts");
        }
        return now.addGhost(cell, pace);
    }

    public int send(int ghost, int x, int y) throws IndexOutOfBoundsException {
        checkGhost(ghost);
        int goal = checkedCell(x, y);
        now.setGoal(ghost, goal);
        return now.stepsTo(ghost, goal);
    }

    public int rite(int ghost) throws IndexOutOfBoundsException, IllegalStateException {
        checkGhost(ghost);
        if (now.mayPass(ghost)) {
            throw new IllegalStateException("the ghost may pass a wall");
        }
        now.setTrait(ghost, Night.MAY_PASS, 1);
        return now.sumOfTrait(Night.MAY_PASS);
    }

    // ---- what is there

    public int cell(int x, int y, int what) throws IndexOutOfBoundsException {
        int cell = checkedCell(x, y);
        checkWhat(what, CELL_KINDS);
        return now.aboutCell(cell, what);
    }

    public boolean walled(int x, int y, int direction)
            throws IndexOutOfBoundsException, IllegalArgumentException {
        int cell = checkedCell(x, y);
        checkDirection(direction);
        return Grid.isRim(cell, direction) || now.house.hasWall(cell, direction);
    }

    public int ghost(int ghost, int what) throws IndexOutOfBoundsException {
        checkGhost(ghost);
        checkWhat(what, Night.TRAITS);
        return now.trait(ghost, what);
    }

    public int count(int what) throws IndexOutOfBoundsException {
        checkWhat(what, COUNT_KINDS);
        return now.aboutAll(what);
    }

    public int shines(int x, int y) throws IndexOutOfBoundsException {
        int cell = checkedCell(x, y);
        return Long.bitCount(now.house.cellsLitFrom(cell));
    }

    // ---- ways

    public int way(int ghost, int x, int y) throws IndexOutOfBoundsException {
        checkGhost(ghost);
        int goal = checkedCell(x, y);
        return now.stepsTo(ghost, goal);
    }

    public int next(int ghost) throws IndexOutOfBoundsException {
        checkGhost(ghost);
        return now.nextDirection(ghost);
    }

    // ---- hours and looking ahead

    public int pass(int hours) throws IllegalArgumentException {
        checkHours(hours, MOST_HOURS);
        int haunts = 0;
        for (int hour = 0; hour < hours; hour++) {
            haunts += now.passHour();
        }
        return haunts;
    }

    public int foresee(int hours, int what)
            throws IllegalArgumentException, IndexOutOfBoundsException {
        checkHours(hours, MOST_HOURS);
        checkWhat(what, FORESEE_KINDS);
        int haunts = hauntsAhead(hours, NONE);
        switch (what) {
            case 0:
                return haunts;
            case 1:
                return ahead.house.burningCount();
            case 2:
                return ahead.house.litCount();
            default:
                return ahead.ghostsAtGoals();
        }
    }

    public int reaches(int x, int y, int marks)
            throws IndexOutOfBoundsException, IllegalArgumentException {
        int cell = checkedCell(x, y);
        if (marks < 0 || marks > MOST_MARKS) {
            throw new IllegalArgumentException("marks is not 0 to 99");
        }
        if (!now.house.hasTally(cell)) {
            return NONE;
        }
        ahead.copyFrom(now);
        for (int hours = 0; hours < MOST_HOURS_TO_REACH; hours++) {
            if (ahead.house.amountIn(cell) == marks) {
                return hours;
            }
            ahead.passHour();
        }
        return ahead.house.amountIn(cell) == marks ? MOST_HOURS_TO_REACH : NONE;
    }

    public int advise(int hours) throws IllegalArgumentException {
        checkHours(hours, MOST_HOURS_OF_ADVICE);
        int fewest = hauntsAhead(hours, NONE);
        int best = NONE;
        for (int cell = 0; cell < CELLS; cell++) {
            if (now.house.hasCandleWithWax(cell)) {
                int haunts = hauntsAhead(hours, cell);
                if (haunts < fewest) {
                    fewest = haunts;
                    best = cell;
                }
            }
        }
        return best;
    }

    public double mean() {
        int tallies = now.house.tallyCount();
        return tallies == 0 ? 0.0 : (double) now.house.sumOfMarks() / tallies;
    }

    public long digest() {
        long d = 1009;
        for (int what = 0; what < COUNT_KINDS; what++) {
            d = d * 31 + now.aboutAll(what);
        }
        for (int cell = 0; cell < CELLS; cell++) {
            for (int what = 0; what < CELL_KINDS; what++) {
                d = d * 31 + now.aboutCell(cell, what);
            }
            d = d * 31 + (now.house.hasWall(cell, RIGHT) ? 1 : 0);
            d = d * 31 + (now.house.hasWall(cell, DOWN) ? 1 : 0);
        }
        for (int ghost = 0; ghost < now.ghostCount; ghost++) {
            for (int what = 0; what < Night.TRAITS; what++) {
                d = d * 31 + now.trait(ghost, what);
            }
        }
        return d;
    }

    /** Leaves in ahead what is then; the candle of the cell is switched first, if one is told. */
    private int hauntsAhead(int hours, int switchedCell) {
        ahead.copyFrom(now);
        if (switchedCell != NONE) {
            ahead.house.switchCandle(switchedCell);
        }
        int haunts = 0;
        for (int hour = 0; hour < hours; hour++) {
            haunts += ahead.passHour();
        }
        return haunts;
    }

    private static int checkedCell(int x, int y) {
        if (x < 0 || x >= WIDTH || y < 0 || y >= HEIGHT) {
            throw new IndexOutOfBoundsException("x is not 0 to 8, or y is not 0 to 6");
        }
        return WIDTH * y + x;
    }

    private static void checkDirection(int direction) {
        if (direction < 0 || direction >= DIRECTIONS) {
            throw new IllegalArgumentException("direction is not 0 to 3");
        }
    }

    private static void checkWhat(int what, int kinds) {
        if (what < 0 || what >= kinds) {
            throw new IndexOutOfBoundsException("there is no such what");
        }
    }

    private static void checkHours(int hours, int most) {
        if (hours < 1 || hours > most) {
            throw new IllegalArgumentException("hours are too few or too many");
        }
    }

    private void checkGhost(int ghost) {
        if (ghost < 0 || ghost >= now.ghostCount) {
            throw new IndexOutOfBoundsException("there is no such ghost");
        }
    }

    private void checkRoomFor(int alike, int most, int cell) {
        if (alike >= most || now.house.thingIn(cell) != NOTHING) {
            throw new IllegalStateException("there are too many, or the cell has a thing");
        }
    }

    /**
     * Cells and sets of cells. A cell is the number 9 * y + x; a set of cells is a long in which
     * the bit of a cell's number is 1: the 63 cells just fit, and no index can be wrong in it.
     */
    private static final class Grid {
        private static final long ALL = 0x7fffffffffffffffL;
        private static final long LEFT_COLUMN = 0x0040201008040201L;
        private static final long RIGHT_COLUMN = LEFT_COLUMN << 8;

        static long only(int cell) {
            return 1L << cell;
        }

        static boolean holds(long cells, int cell) {
            return (cells >>> cell & 1) != 0;
        }

        /** The neighbours of the cells in a direction, walls or not; those at the rim have none. */
        static long moved(long cells, int direction) {
            switch (direction) {
                case UP:
                    return cells >>> WIDTH;
                case RIGHT:
                    return (cells & ~RIGHT_COLUMN) << 1;
                case DOWN:
                    return (cells << WIDTH) & ALL;
                default:
                    return (cells & ~LEFT_COLUMN) >>> 1;
            }
        }

        static boolean isRim(int cell, int direction) {
            return moved(only(cell), direction) == 0;
        }

        /** The number of the neighbour that a cell, which is not at the rim there, has. */
        static int neighbour(int cell, int direction) {
            switch (direction) {
                case UP:
                    return cell - WIDTH;
                case RIGHT:
                    return cell + 1;
                case DOWN:
                    return cell + WIDTH;
                default:
                    return cell - 1;
            }
        }
    }

    /** A row of numbers, 0 at first, in which no place can be wrong: the others hold 0 for ever. */
    private static final class Row {
        private final int[] numbers;

        Row(int length) {
            numbers = new int[length < 0 ? 0 : length];
        }

        int get(int place) {
            return place >= 0 && place < numbers.length ? numbers[place] : 0;
        }

        void put(int place, int number) {
            if (place >= 0 && place < numbers.length) {
                numbers[place] = number;
            }
        }

        void copyFrom(Row other) {
            for (int place = 0; place < numbers.length; place++) {
                numbers[place] = other.get(place);
            }
        }
    }

    /** Walls, things and light. */
    private static final class House {
        private long candles;
        private long burning;
        private long mirrorsToRight;
        private long mirrorsToLeft;
        private long tallies;
        /** The cells that have a wall to their right; never one beside the rim. */
        private long wallsToRight;
        /** The cells that have a wall below them; never one beside the rim. */
        private long wallsBelow;
        private long lit;
        /** By cells: the wax of a candle, or the marks of a tally; 0 without either. */
        private final Row amounts = new Row(CELLS);

        void copyFrom(House other) {
            candles = other.candles;
            burning = other.burning;
            mirrorsToRight = other.mirrorsToRight;
            mirrorsToLeft = other.mirrorsToLeft;
            tallies = other.tallies;
            wallsToRight = other.wallsToRight;
            wallsBelow = other.wallsBelow;
            lit = other.lit;
            amounts.copyFrom(other.amounts);
        }

        int candleCount() {
            return Long.bitCount(candles);
        }

        int burningCount() {
            return Long.bitCount(burning);
        }

        int mirrorCount() {
            return Long.bitCount(mirrorsToRight | mirrorsToLeft);
        }

        int tallyCount() {
            return Long.bitCount(tallies);
        }

        int wallCount() {
            return Long.bitCount(wallsToRight) + Long.bitCount(wallsBelow);
        }

        int litCount() {
            return Long.bitCount(lit);
        }

        int sumOfMarks() {
            int sum = 0;
            for (int cell = 0; cell < CELLS; cell++) {
                if (hasTally(cell)) {
                    sum += amounts.get(cell);
                }
            }
            return sum;
        }

        boolean isBurning(int cell) {
            return Grid.holds(burning, cell);
        }

        boolean isLit(int cell) {
            return Grid.holds(lit, cell);
        }

        boolean hasTally(int cell) {
            return Grid.holds(tallies, cell);
        }

        boolean hasCandleWithWax(int cell) {
            return Grid.holds(candles, cell) && amounts.get(cell) > 0;
        }

        int amountIn(int cell) {
            return amounts.get(cell);
        }

        int thingIn(int cell) {
            if (Grid.holds(candles, cell)) {
                return CANDLE;
            }
            if (Grid.holds(mirrorsToRight, cell)) {
                return MIRROR_TO_RIGHT;
            }
            if (Grid.holds(mirrorsToLeft, cell)) {
                return MIRROR_TO_LEFT;
            }
            return hasTally(cell) ? TALLY : NOTHING;
        }

        void addCandle(int cell, int wax) {
            candles |= Grid.only(cell);
            burning |= Grid.only(cell);
            amounts.put(cell, wax);
            relight();
        }

        void addMirror(int cell, boolean toRight) {
            if (toRight) {
                mirrorsToRight |= Grid.only(cell);
            } else {
                mirrorsToLeft |= Grid.only(cell);
            }
            relight();
        }

        void addTally(int cell) {
            tallies |= Grid.only(cell);
        }

        void clear(int cell) {
            long others = ~Grid.only(cell);
            candles &= others;
            burning &= others;
            mirrorsToRight &= others;
            mirrorsToLeft &= others;
            tallies &= others;
            amounts.put(cell, 0);
            relight();
        }

        void switchCandle(int cell) {
            burning ^= Grid.only(cell);
            relight();
        }

        /** The cells that have a wall in a direction. */
        long walledCells(int direction) {
            switch (direction) {
                case UP:
                    return wallsBelow << WIDTH;
                case RIGHT:
                    return wallsToRight;
                case DOWN:
                    return wallsBelow;
                default:
                    return wallsToRight << 1;
            }
        }

        boolean hasWall(int cell, int direction) {
            return Grid.holds(walledCells(direction), cell);
        }

        /** The cell has a neighbour in the direction. */
        void switchWall(int cell, int direction) {
            long here = Grid.only(cell);
            long there = Grid.moved(here, direction);
            switch (direction) {
                case UP:
                    wallsBelow ^= there;
                    break;
                case RIGHT:
                    wallsToRight ^= here;
                    break;
                case DOWN:
                    wallsBelow ^= here;
                    break;
                default:
                    wallsToRight ^= there;
                    break;
            }
            relight();
        }

        /** The neighbours of the cells: those behind walls alone, or those without a wall alone. */
        long neighbours(long cells, boolean behindWalls) {
            long found = 0;
            for (int direction = 0; direction < DIRECTIONS; direction++) {
                long walled = walledCells(direction);
                found |= Grid.moved(cells & (behindWalls ? walled : ~walled), direction);
            }
            return found;
        }

        long cellsLitFrom(int cell) {
            long own = Grid.only(cell);
            long cells = own;
            for (int first = 0; first < DIRECTIONS; first++) {
                long at = own;
                int direction = first;
                for (int step = 0; step < MOST_BEAM_STEPS; step++) {
                    at = Grid.moved(at & ~walledCells(direction), direction);
                    cells |= at;
                    // A beam may come back: the candle stands there then, in place of any mirror.
                    direction = turned(at & ~own, direction);
                }
            }
            return cells;
        }

        private int turned(long at, int direction) {
            if ((at & mirrorsToRight) != 0) {
                // Up and right change places, down and left: 0 and 1, 2 and 3.
                return direction ^ 1;
            }
            if ((at & mirrorsToLeft) != 0) {
                // Up and left change places, right and down: 0 and 3, 1 and 2.
                return LEFT - direction;
            }
            return direction;
        }

        /** What is lit is kept, and made anew when a wall, a mirror or a flame has changed. */
        private void relight() {
            lit = 0;
            for (int cell = 0; cell < CELLS; cell++) {
                if (Grid.holds(burning, cell)) {
                    lit |= cellsLitFrom(cell);
                }
            }
        }

        void burnDown() {
            for (int cell = 0; cell < CELLS; cell++) {
                if (isBurning(cell)) {
                    int wax = amounts.get(cell) - 1;
                    amounts.put(cell, wax);
                    if (wax <= 0) {
                        burning &= ~Grid.only(cell);
                    }
                }
            }
            relight();
        }

        void blowOutAround(int cell) {
            long own = Grid.only(cell);
            burning &= ~(neighbours(own, false) | neighbours(own, true));
            relight();
        }

        void addMark(int cell) {
            int marks = amounts.get(cell) + 1;
            if (marks > MOST_MARKS) {
                marks = 0;
            }
            if (marks % SWAPPING_DIVISOR == 0) {
                marks = marks % 10 * 10 + marks / 10;
            }
            amounts.put(cell, marks);
        }
    }

    /**
     * Looks for a way of the fewest steps: from the goal backwards, so that behind it, all the
     * cells to which a first step may go are known.
     */
    private static final class Ways {
        private long own;
        private boolean mayPass;
        /** The cells that are at most a number of steps from the goal, without passing a wall. */
        private long plain;
        /** The cells that are at most so many steps from it, passing one wall. */
        private long passing;

        /** NONE without a way. */
        int fewestSteps(House house, int from, int goal, boolean mayPassWall) {
            own = Grid.only(from);
            mayPass = mayPassWall;
            long free = ~house.lit | own;
            plain = Grid.only(goal) & free;
            passing = 0;
            if (from == goal) {
                return 0;
            }
            for (int steps = 1; steps < CELLS; steps++) {
                long plainNext = plain | house.neighbours(plain, false) & free;
                long passingNext = passing;
                if (mayPass) {
                    passingNext |= house.neighbours(passing, false) & free;
                    passingNext |= house.neighbours(plain, true) & free;
                }
                if (((plainNext | passingNext) & own) != 0) {
                    return steps;
                }
                if (plainNext == plain && passingNext == passing) {
                    return NONE;
                }
                plain = plainNext;
                passing = passingNext;
            }
            return NONE;
        }

        /**
         * The first step of the way that fewestSteps found last, in the same house, if it has at
         * least one step. That one has stopped before the own cell, so each neighbour found is just
         * one step nearer.
         */
        int firstDirection(House house) {
            for (int direction = 0; direction < DIRECTIONS; direction++) {
                long open = own & ~house.walledCells(direction);
                if ((Grid.moved(open, direction) & (plain | passing)) != 0) {
                    return direction;
                }
            }
            for (int direction = 0; direction < DIRECTIONS; direction++) {
                long walled = own & house.walledCells(direction);
                if (mayPass && (Grid.moved(walled, direction) & plain) != 0) {
                    return direction;
                }
            }
            return NONE;
        }
    }

    /** All that an hour changes: the house, the ghosts and the hour. */
    private static final class Night {
        /** What is known of a ghost, by the numbers that the face has for it. */
        private static final int X = 0;
        private static final int Y = 1;
        private static final int PACE = 2;
        private static final int GOAL_X = 3;
        private static final int GOAL_Y = 4;
        private static final int MAY_PASS = 5;
        private static final int HAUNTS = 6;
        private static final int FEARS = 7;
        private static final int TRAITS = 8;

        private final House house = new House();
        private final Ways ways = new Ways();
        private final Row traits = new Row(MOST_GHOSTS * TRAITS);
        private int ghostCount;
        private int hour;

        void copyFrom(Night other) {
            house.copyFrom(other.house);
            traits.copyFrom(other.traits);
            ghostCount = other.ghostCount;
            hour = other.hour;
        }

        int trait(int ghost, int what) {
            return traits.get(ghost * TRAITS + what);
        }

        void setTrait(int ghost, int what, int number) {
            traits.put(ghost * TRAITS + what, number);
        }

        int sumOfTrait(int what) {
            int sum = 0;
            for (int ghost = 0; ghost < ghostCount; ghost++) {
                sum += trait(ghost, what);
            }
            return sum;
        }

        boolean mayPass(int ghost) {
            return trait(ghost, MAY_PASS) == 1;
        }

        int cellOf(int ghost) {
            return WIDTH * trait(ghost, Y) + trait(ghost, X);
        }

        int goalOf(int ghost) {
            return WIDTH * trait(ghost, GOAL_Y) + trait(ghost, GOAL_X);
        }

        void setCell(int ghost, int cell) {
            setTrait(ghost, X, cell % WIDTH);
            setTrait(ghost, Y, cell / WIDTH);
        }

        void setGoal(int ghost, int cell) {
            setTrait(ghost, GOAL_X, cell % WIDTH);
            setTrait(ghost, GOAL_Y, cell / WIDTH);
        }

        int addGhost(int cell, int pace) {
            int ghost = ghostCount;
            setCell(ghost, cell);
            setGoal(ghost, cell);
            setTrait(ghost, PACE, pace);
            setTrait(ghost, MAY_PASS, 1);
            ghostCount++;
            return ghost;
        }

        int ghostsIn(int cell) {
            int found = 0;
            for (int ghost = 0; ghost < ghostCount; ghost++) {
                if (cellOf(ghost) == cell) {
                    found++;
                }
            }
            return found;
        }

        int ghostsAtGoals() {
            int found = 0;
            for (int ghost = 0; ghost < ghostCount; ghost++) {
                if (cellOf(ghost) == goalOf(ghost)) {
                    found++;
                }
            }
            return found;
        }

        int aboutCell(int cell, int what) {
            switch (what) {
                case 0:
                    return house.thingIn(cell);
                case 1:
                    return house.amountIn(cell);
                case 2:
                    return house.isBurning(cell) ? 1 : 0;
                case 3:
                    return house.isLit(cell) ? 1 : 0;
                default:
                    return ghostsIn(cell);
            }
        }

        int aboutAll(int what) {
            switch (what) {
                case 0:
                    return hour;
                case 1:
                    return ghostCount;
                case 2:
                    return house.candleCount();
                case 3:
                    return house.burningCount();
                case 4:
                    return house.mirrorCount();
                case 5:
                    return house.tallyCount();
                case 6:
                    return house.wallCount();
                case 7:
                    return house.litCount();
                case 8:
                    return sumOfTrait(HAUNTS);
                default:
                    return house.sumOfMarks();
            }
        }

        int stepsTo(int ghost, int cell) {
            return ways.fewestSteps(house, cellOf(ghost), cell, mayPass(ghost));
        }

        int nextDirection(int ghost) {
            int steps = ways.fewestSteps(house, cellOf(ghost), goalOf(ghost), mayPass(ghost));
            return steps > 0 ? ways.firstDirection(house) : NONE;
        }

        /** Returns how often ghosts haunt in it. */
        int passHour() {
            house.burnDown();
            for (int ghost = 0; ghost < ghostCount; ghost++) {
                int pace = trait(ghost, PACE);
                for (int step = 0; step < pace; step++) {
                    takeStep(ghost);
                }
            }
            int haunts = 0;
            for (int ghost = 0; ghost < ghostCount; ghost++) {
                if (hauntsOrFears(ghost)) {
                    haunts++;
                }
            }
            hour++;
            return haunts;
        }

        private void takeStep(int ghost) {
            int direction = nextDirection(ghost);
            if (direction == NONE) {
                return;
            }
            int from = cellOf(ghost);
            int to = Grid.neighbour(from, direction);
            setCell(ghost, to);
            if (house.hasWall(from, direction)) {
                setTrait(ghost, MAY_PASS, 0);
                house.blowOutAround(to);
            }
        }

        /** Returns whether it haunts. */
        private boolean hauntsOrFears(int ghost) {
            int cell = cellOf(ghost);
            if (house.isLit(cell)) {
                setTrait(ghost, FEARS, trait(ghost, FEARS) + 1);
                return false;
            }
            if (!house.hasTally(cell)) {
                return false;
            }
            house.addMark(cell);
            setTrait(ghost, HAUNTS, trait(ghost, HAUNTS) + 1);
            return true;
        }
    }
}
