/** Promises 8 to 10 and 13: ghosts come, are sent, may pass a wall again, and are told about. */
public final class GhostsTest {
    private static final Due DUE = new Due("GhostsTest");

    public static void main(String[] args) {
        promise8Come();
        promise9Send();
        promise10Rite();
        promise13Ghost();
        DUE.end();
    }

    private static void promise8Come() {
        GhostCandles house = new GhostCandles();
        DUE.outOfBounds(house, "come(9, 0, 1)", () -> house.come(9, 0, 1));
        DUE.outOfBounds(house, "come(0, 7, 1)", () -> house.come(0, 7, 1));
        DUE.outOfBounds(house, "come(-1, 0, 0)", () -> house.come(-1, 0, 0));
        DUE.outOfBounds(house, "come(0, -1, 4)", () -> house.come(0, -1, 4));
        for (int pace : new int[] {0, 4, -1, Integer.MIN_VALUE, Integer.MAX_VALUE}) {
            DUE.badArgument(house, "come with pace " + pace, () -> house.come(0, 0, pace));
        }
        house.candle(3, 3, 9);
        for (int number = 0; number < 6; number++) {
            DUE.is("come", house.come(3, number / 2, number % 3 + 1), number);
            DUE.is("ghosts", house.count(1), number + 1);
        }
        DUE.badState(house, "a seventh", () -> house.come(0, 0, 1));
        DUE.badArgument(house, "a seventh, bad pace", () -> house.come(0, 0, 4));
        DUE.is("ghosts in a cell", house.cell(3, 1, 4), 2);
        DUE.is("ghosts elsewhere", house.cell(1, 3, 4), 0);
    }

    private static void promise9Send() {
        GhostCandles house = new GhostCandles();
        DUE.outOfBounds(house, "send(0, 0, 0) without ghosts", () -> house.send(0, 0, 0));
        house.come(1, 1, 2);
        DUE.outOfBounds(house, "send(1, 0, 0)", () -> house.send(1, 0, 0));
        DUE.outOfBounds(house, "send(-1, 0, 0)", () -> house.send(-1, 0, 0));
        DUE.outOfBounds(house, "send(0, 9, 0)", () -> house.send(0, 9, 0));
        DUE.outOfBounds(house, "send(0, -1, 0)", () -> house.send(0, -1, 0));
        DUE.outOfBounds(house, "send(0, 0, 7)", () -> house.send(0, 0, 7));
        DUE.outOfBounds(house, "send(0, 0, -1)", () -> house.send(0, 0, -1));
        DUE.is("send(0, 8, 6)", house.send(0, 8, 6), 12);
        DUE.is("goal x", house.ghost(0, 3), 8);
        DUE.is("goal y", house.ghost(0, 4), 6);
        DUE.is("cell x stays", house.ghost(0, 0), 1);
        DUE.is("cell y stays", house.ghost(0, 1), 1);
        house.candle(5, 5, 9);
        DUE.is("send to a lit cell", house.send(0, 5, 5), -1);
        DUE.is("it is the goal all the same", house.ghost(0, 3), 5);
        DUE.is("send to its own cell", house.send(0, 1, 1), 0);
    }

    private static void promise10Rite() {
        GhostCandles house = new GhostCandles();
        DUE.outOfBounds(house, "rite(0) without ghosts", () -> house.rite(0));
        for (int x = 0; x < 3; x++) {
            house.come(x, 0, 1);
            house.send(x, x, 1);
            house.wall(x, 0, 2);
        }
        house.wall(0, 0, 1);
        house.wall(1, 0, 1);
        house.wall(2, 0, 1);
        DUE.outOfBounds(house, "rite(3)", () -> house.rite(3));
        DUE.outOfBounds(house, "rite(-1)", () -> house.rite(-1));
        DUE.badState(house, "rite(0) at first", () -> house.rite(0));
        house.pass(1);
        for (int ghost = 0; ghost < 3; ghost++) {
            DUE.is("it passed", house.ghost(ghost, 5), 0);
        }
        DUE.is("rite(1)", house.rite(1), 1);
        DUE.is("rite(2)", house.rite(2), 2);
        DUE.badState(house, "rite(2) again", () -> house.rite(2));
        DUE.is("the first may not", house.ghost(0, 5), 0);
        DUE.is("the second may", house.ghost(1, 5), 1);
        DUE.is("rite(0)", house.rite(0), 3);
    }

    private static void promise13Ghost() {
        GhostCandles house = new GhostCandles();
        DUE.outOfBounds(house, "ghost(0, 0) without ghosts", () -> house.ghost(0, 0));
        house.come(0, 6, 1);
        house.come(7, 2, 3);
        int[] due = {7, 2, 3, 7, 2, 1, 0, 0};
        for (int what = 0; what < 8; what++) {
            DUE.is("ghost(1, " + what + ")", house.ghost(1, what), due[what]);
        }
        DUE.outOfBounds(house, "ghost(2, 0)", () -> house.ghost(2, 0));
        DUE.outOfBounds(house, "ghost(-1, 0)", () -> house.ghost(-1, 0));
        DUE.outOfBounds(house, "ghost(0, 8)", () -> house.ghost(0, 8));
        DUE.outOfBounds(house, "ghost(0, -1)", () -> house.ghost(0, -1));
        house.tally(7, 2);
        house.pass(4);
        house.candle(7, 1, 3);
        house.pass(5);
        DUE.is("how often it haunted: 4, then behind 3 hours 3", house.ghost(1, 6), 7);
        DUE.is("how often it was afraid: not in the hour in which it burnt down", house.ghost(1, 7), 2);
        DUE.is("the other one haunted", house.ghost(0, 6), 0);
        DUE.is("the other one was afraid", house.ghost(0, 7), 0);
    }
}
