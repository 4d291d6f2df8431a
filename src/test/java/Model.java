import java.util.ArrayDeque;
import java.util.ArrayList;
import java.util.Arrays;
import java.util.List;

/**
 * The document once more, slowly and by other means than the class: grids, objects, and ways that
 * are looked for from every neighbour anew. ModelTest holds the class against it.
 */
public final class Model {
    private static final int[] STEP_X = {0, 1, 0, -1};
    private static final int[] STEP_Y = {-1, 0, 1, 0};
    private static final int FAR = 1_000_000;

    private enum Kind { CANDLE, TO_RIGHT, TO_LEFT, TALLY }

    private static final class Thing {
        Kind kind;
        int wax;
        boolean burns;
        int marks;

        Thing copy() {
            Thing thing = new Thing();
            thing.kind = kind;
            thing.wax = wax;
            thing.burns = burns;
            thing.marks = marks;
            return thing;
        }
    }

    private static final class Ghost {
        int x;
        int y;
        int goalX;
        int goalY;
        int pace;
        boolean mayPass = true;
        int haunted;
        int afraid;

        Ghost copy() {
            Ghost ghost = new Ghost();
            ghost.x = x;
            ghost.y = y;
            ghost.goalX = goalX;
            ghost.goalY = goalY;
            ghost.pace = pace;
            ghost.mayPass = mayPass;
            ghost.haunted = haunted;
            ghost.afraid = afraid;
            return ghost;
        }
    }

    private final Thing[][] things = new Thing[9][7];
    /** By x, y and direction, from both sides. */
    private final boolean[][][] walls = new boolean[9][7][4];
    private final List<Ghost> ghosts = new ArrayList<>();
    private int hour;

    private Model copy() {
        Model model = new Model();
        for (int x = 0; x < 9; x++) {
            for (int y = 0; y < 7; y++) {
                model.things[x][y] = things[x][y] == null ? null : things[x][y].copy();
                model.walls[x][y] = walls[x][y].clone();
            }
        }
        for (Ghost ghost : ghosts) {
            model.ghosts.add(ghost.copy());
        }
        model.hour = hour;
        return model;
    }

    private static boolean inside(int x, int y) {
        return x >= 0 && x <= 8 && y >= 0 && y <= 6;
    }

    private static void needCell(int x, int y) {
        if (!inside(x, y)) {
            throw new IndexOutOfBoundsException();
        }
    }

    private void needGhost(int ghost) {
        if (ghost < 0 || ghost >= ghosts.size()) {
            throw new IndexOutOfBoundsException();
        }
    }

    private static void needWhat(int what, int most) {
        if (what < 0 || what > most) {
            throw new IndexOutOfBoundsException();
        }
    }

    private static void needArgument(int number, int least, int most) {
        if (number < least || number > most) {
            throw new IllegalArgumentException();
        }
    }

    private static void need(boolean state) {
        if (!state) {
            throw new IllegalStateException();
        }
    }

    private int number(Kind... kinds) {
        int found = 0;
        for (Thing[] column : things) {
            for (Thing thing : column) {
                if (thing != null && Arrays.asList(kinds).contains(thing.kind)) {
                    found++;
                }
            }
        }
        return found;
    }

    public boolean wall(int x, int y, int direction) {
        needCell(x, y);
        needArgument(direction, 0, 3);
        int otherX = x + STEP_X[direction];
        int otherY = y + STEP_Y[direction];
        need(inside(otherX, otherY));
        boolean built = !walls[x][y][direction];
        walls[x][y][direction] = built;
        walls[otherX][otherY][(direction + 2) % 4] = built;
        return built;
    }

    private Thing hang(int x, int y, Kind kind) {
        Thing thing = new Thing();
        thing.kind = kind;
        things[x][y] = thing;
        return thing;
    }

    public int candle(int x, int y, int wax) {
        needCell(x, y);
        needArgument(wax, 1, 60);
        need(number(Kind.CANDLE) < 10 && things[x][y] == null);
        Thing candle = hang(x, y, Kind.CANDLE);
        candle.wax = wax;
        candle.burns = true;
        return number(Kind.CANDLE);
    }

    public int mirror(int x, int y, boolean toRight) {
        needCell(x, y);
        need(number(Kind.TO_RIGHT, Kind.TO_LEFT) < 10 && things[x][y] == null);
        hang(x, y, toRight ? Kind.TO_RIGHT : Kind.TO_LEFT);
        return number(Kind.TO_RIGHT, Kind.TO_LEFT);
    }

    public int tally(int x, int y) {
        needCell(x, y);
        need(number(Kind.TALLY) < 6 && things[x][y] == null);
        hang(x, y, Kind.TALLY);
        return number(Kind.TALLY);
    }

    public int remove(int x, int y) {
        needCell(x, y);
        need(things[x][y] != null);
        int code = things[x][y].kind.ordinal() + 1;
        things[x][y] = null;
        return code;
    }

    public boolean light(int x, int y) {
        needCell(x, y);
        Thing thing = things[x][y];
        need(thing != null && thing.kind == Kind.CANDLE && thing.wax > 0);
        thing.burns = !thing.burns;
        return thing.burns;
    }

    public int come(int x, int y, int pace) {
        needCell(x, y);
        needArgument(pace, 1, 3);
        need(ghosts.size() < 6);
        Ghost ghost = new Ghost();
        ghost.x = x;
        ghost.y = y;
        ghost.goalX = x;
        ghost.goalY = y;
        ghost.pace = pace;
        ghosts.add(ghost);
        return ghosts.size() - 1;
    }

    public int send(int ghost, int x, int y) {
        needGhost(ghost);
        needCell(x, y);
        ghosts.get(ghost).goalX = x;
        ghosts.get(ghost).goalY = y;
        return way(ghost, x, y);
    }

    public int rite(int ghost) {
        needGhost(ghost);
        need(!ghosts.get(ghost).mayPass);
        ghosts.get(ghost).mayPass = true;
        return (int) ghosts.stream().filter(one -> one.mayPass).count();
    }

    public int cell(int x, int y, int what) {
        needCell(x, y);
        needWhat(what, 4);
        Thing thing = things[x][y];
        if (what == 0) {
            return thing == null ? 0 : thing.kind.ordinal() + 1;
        }
        if (what == 1) {
            return thing == null ? 0 : thing.kind == Kind.CANDLE ? thing.wax : thing.marks;
        }
        if (what == 2) {
            return thing != null && thing.burns ? 1 : 0;
        }
        if (what == 3) {
            return lit()[x][y] ? 1 : 0;
        }
        return (int) ghosts.stream().filter(one -> one.x == x && one.y == y).count();
    }

    public boolean walled(int x, int y, int direction) {
        needCell(x, y);
        needArgument(direction, 0, 3);
        return walls[x][y][direction] || !inside(x + STEP_X[direction], y + STEP_Y[direction]);
    }

    public int ghost(int ghost, int what) {
        needGhost(ghost);
        needWhat(what, 7);
        Ghost one = ghosts.get(ghost);
        return new int[] {
            one.x, one.y, one.pace, one.goalX, one.goalY, one.mayPass ? 1 : 0, one.haunted, one.afraid
        }[what];
    }

    public int count(int what) {
        needWhat(what, 9);
        int burning = 0;
        int sides = 0;
        int marks = 0;
        for (int x = 0; x < 9; x++) {
            for (int y = 0; y < 7; y++) {
                Thing thing = things[x][y];
                burning += thing != null && thing.burns ? 1 : 0;
                marks += thing != null ? thing.marks : 0;
                for (boolean wall : walls[x][y]) {
                    sides += wall ? 1 : 0;
                }
            }
        }
        return new int[] {
            hour, ghosts.size(), number(Kind.CANDLE), burning, number(Kind.TO_RIGHT, Kind.TO_LEFT),
            number(Kind.TALLY), sides / 2, number(lit()),
            ghosts.stream().mapToInt(one -> one.haunted).sum(), marks
        }[what];
    }

    private static int number(boolean[][] cells) {
        int found = 0;
        for (boolean[] column : cells) {
            for (boolean cell : column) {
                found += cell ? 1 : 0;
            }
        }
        return found;
    }

    public int shines(int x, int y) {
        needCell(x, y);
        Model other = copy();
        for (Thing[] column : other.things) {
            for (Thing thing : column) {
                if (thing != null) {
                    thing.burns = false;
                }
            }
        }
        other.hang(x, y, Kind.CANDLE).burns = true;
        return number(other.lit());
    }

    private boolean[][] lit() {
        boolean[][] lit = new boolean[9][7];
        for (int x = 0; x < 9; x++) {
            for (int y = 0; y < 7; y++) {
                if (things[x][y] != null && things[x][y].burns) {
                    lit[x][y] = true;
                    for (int direction = 0; direction < 4; direction++) {
                        beam(lit, x, y, direction, 6);
                    }
                }
            }
        }
        return lit;
    }

    private void beam(boolean[][] lit, int x, int y, int direction, int steps) {
        if (steps == 0 || walled(x, y, direction)) {
            return;
        }
        int nextX = x + STEP_X[direction];
        int nextY = y + STEP_Y[direction];
        lit[nextX][nextY] = true;
        beam(lit, nextX, nextY, turned(things[nextX][nextY], direction), steps - 1);
    }

    private static int turned(Thing thing, int direction) {
        if (thing != null && thing.kind == Kind.TO_RIGHT) {
            return "1032".charAt(direction) - '0';
        }
        if (thing != null && thing.kind == Kind.TO_LEFT) {
            return "3210".charAt(direction) - '0';
        }
        return direction;
    }

    public int way(int ghost, int x, int y) {
        needGhost(ghost);
        needCell(x, y);
        Ghost one = ghosts.get(ghost);
        int steps = steps(lit(), one.x, one.y, one.mayPass, x, y);
        return steps == FAR ? -1 : steps;
    }

    /** By breadth from the cell; places are x, y and whether a wall may be passed still. */
    private int steps(boolean[][] lit, int fromX, int fromY, boolean mayPass, int goalX, int goalY) {
        int[][][] steps = new int[9][7][2];
        ArrayDeque<int[]> open = new ArrayDeque<>();
        steps[fromX][fromY][mayPass ? 1 : 0] = 1;
        open.add(new int[] {fromX, fromY, mayPass ? 1 : 0});
        while (!open.isEmpty()) {
            int[] at = open.remove();
            if (at[0] == goalX && at[1] == goalY) {
                return steps[at[0]][at[1]][at[2]] - 1;
            }
            for (int direction = 0; direction < 4; direction++) {
                int x = at[0] + STEP_X[direction];
                int y = at[1] + STEP_Y[direction];
                if (!inside(x, y) || lit[x][y]) {
                    continue;
                }
                int left = at[2] - (walls[at[0]][at[1]][direction] ? 1 : 0);
                if (left >= 0 && steps[x][y][left] == 0) {
                    steps[x][y][left] = steps[at[0]][at[1]][at[2]] + 1;
                    open.add(new int[] {x, y, left});
                }
            }
        }
        return FAR;
    }

    public int next(int ghost) {
        needGhost(ghost);
        Ghost one = ghosts.get(ghost);
        if (one.x == one.goalX && one.y == one.goalY) {
            return -1;
        }
        boolean[][] lit = lit();
        int best = -1;
        int bestSteps = FAR;
        boolean bestWalled = false;
        for (int direction = 0; direction < 4; direction++) {
            int x = one.x + STEP_X[direction];
            int y = one.y + STEP_Y[direction];
            boolean walled = walls[one.x][one.y][direction];
            if (!inside(x, y) || lit[x][y] || walled && !one.mayPass) {
                continue;
            }
            int steps = steps(lit, x, y, one.mayPass && !walled, one.goalX, one.goalY);
            if (steps < bestSteps || steps == bestSteps && steps < FAR && bestWalled && !walled) {
                best = direction;
                bestSteps = steps;
                bestWalled = walled;
            }
        }
        return best;
    }

    private int passHour() {
        for (Thing[] column : things) {
            for (Thing thing : column) {
                if (thing != null && thing.burns) {
                    thing.wax--;
                    thing.burns = thing.wax > 0;
                }
            }
        }
        for (int ghost = 0; ghost < ghosts.size(); ghost++) {
            for (int step = 0; step < ghosts.get(ghost).pace; step++) {
                step(ghosts.get(ghost), next(ghost));
            }
        }
        int haunts = 0;
        boolean[][] lit = lit();
        for (Ghost ghost : ghosts) {
            Thing thing = things[ghost.x][ghost.y];
            if (lit[ghost.x][ghost.y]) {
                ghost.afraid++;
            } else if (thing != null && thing.kind == Kind.TALLY) {
                ghost.haunted++;
                haunts++;
                thing.marks = (thing.marks + 1) % 100;
                if (thing.marks % 13 == 0) {
                    String digits = String.format("%02d", thing.marks);
                    thing.marks = Integer.parseInt("" + digits.charAt(1) + digits.charAt(0));
                }
            }
        }
        hour++;
        return haunts;
    }

    private void step(Ghost ghost, int direction) {
        if (direction < 0) {
            return;
        }
        boolean passes = walls[ghost.x][ghost.y][direction];
        ghost.x += STEP_X[direction];
        ghost.y += STEP_Y[direction];
        if (passes) {
            ghost.mayPass = false;
            for (int around = 0; around < 4; around++) {
                int x = ghost.x + STEP_X[around];
                int y = ghost.y + STEP_Y[around];
                if (inside(x, y) && things[x][y] != null) {
                    things[x][y].burns = false;
                }
            }
        }
    }

    public int pass(int hours) {
        needArgument(hours, 1, 40);
        int haunts = 0;
        for (int passed = 0; passed < hours; passed++) {
            haunts += passHour();
        }
        return haunts;
    }

    public int foresee(int hours, int what) {
        needArgument(hours, 1, 40);
        needWhat(what, 3);
        Model other = copy();
        int haunts = other.pass(hours);
        int atGoals = (int) other.ghosts.stream()
                .filter(one -> one.x == one.goalX && one.y == one.goalY).count();
        return new int[] {haunts, other.count(3), other.count(7), atGoals}[what];
    }

    public int reaches(int x, int y, int marks) {
        needCell(x, y);
        needArgument(marks, 0, 99);
        Model other = copy();
        if (things[x][y] == null || things[x][y].kind != Kind.TALLY) {
            return -1;
        }
        int hours = 0;
        while (hours < 60 && other.things[x][y].marks != marks) {
            other.passHour();
            hours++;
        }
        return other.things[x][y].marks == marks ? hours : -1;
    }

    public int advise(int hours) {
        needArgument(hours, 1, 8);
        int fewest = copy().pass(hours);
        int best = -1;
        for (int cell = 0; cell < 63; cell++) {
            Model other = copy();
            try {
                other.light(cell % 9, cell / 9);
            } catch (IllegalStateException e) {
                continue;
            }
            int haunts = other.pass(hours);
            if (haunts < fewest) {
                fewest = haunts;
                best = cell;
            }
        }
        return best;
    }

    public double mean() {
        return number(Kind.TALLY) == 0 ? 0 : count(9) / (double) number(Kind.TALLY);
    }

    public long digest() {
        List<Integer> numbers = new ArrayList<>();
        for (int what = 0; what < 10; what++) {
            numbers.add(count(what));
        }
        for (int y = 0; y < 7; y++) {
            for (int x = 0; x < 9; x++) {
                for (int what = 0; what < 5; what++) {
                    numbers.add(cell(x, y, what));
                }
                numbers.add(walls[x][y][1] ? 1 : 0);
                numbers.add(walls[x][y][2] ? 1 : 0);
            }
        }
        for (int ghost = 0; ghost < ghosts.size(); ghost++) {
            for (int what = 0; what < 8; what++) {
                numbers.add(ghost(ghost, what));
            }
        }
        long d = 1009;
        for (int number : numbers) {
            d = d * 31 + number;
        }
        return d;
    }
}
