/** Promises 11, 12, 14 and 15: what is in a cell and beside it, counts, and what would shine. */
public final class WhatIsThereTest {
    private static final Due DUE = new Due("WhatIsThereTest");

    public static void main(String[] args) {
        promise11Cell();
        promise12Walled();
        promise14Count();
        promise15Shines();
        promise15ShinesBackToItself();
        DUE.end();
    }

    private static void promise11Cell() {
        GhostCandles house = new GhostCandles();
        house.candle(8, 0, 7);
        house.mirror(0, 6, true);
        house.mirror(1, 6, false);
        house.tally(2, 5);
        house.come(2, 5, 1);
        house.come(2, 5, 1);
        house.come(8, 0, 1);
        house.pass(1);
        isCell(house, 8, 0, 1, 6, 1, 1, 1);
        isCell(house, 0, 6, 2, 0, 0, 0, 0);
        isCell(house, 1, 6, 3, 0, 0, 0, 0);
        isCell(house, 2, 5, 4, 2, 0, 0, 2);
        isCell(house, 7, 0, 0, 0, 0, 1, 0);
        isCell(house, 3, 3, 0, 0, 0, 0, 0);
        house.light(8, 0);
        isCell(house, 8, 0, 1, 6, 0, 0, 1);
        DUE.outOfBounds(house, "cell(-1, 0, 0)", () -> house.cell(-1, 0, 0));
        DUE.outOfBounds(house, "cell(9, 0, 0)", () -> house.cell(9, 0, 0));
        DUE.outOfBounds(house, "cell(0, -1, 0)", () -> house.cell(0, -1, 0));
        DUE.outOfBounds(house, "cell(0, 7, 0)", () -> house.cell(0, 7, 0));
        DUE.outOfBounds(house, "cell(0, 0, -1)", () -> house.cell(0, 0, -1));
        DUE.outOfBounds(house, "cell(0, 0, 5)", () -> house.cell(0, 0, 5));
    }

    private static void isCell(GhostCandles house, int x, int y, int... due) {
        for (int what = 0; what < due.length; what++) {
            DUE.is("cell(" + x + ", " + y + ", " + what + ")", house.cell(x, y, what), due[what]);
        }
    }

    private static void promise12Walled() {
        GhostCandles house = new GhostCandles();
        house.wall(4, 3, 0);
        DUE.is("walled(4, 3, 0)", house.walled(4, 3, 0), true);
        DUE.is("walled(4, 2, 2)", house.walled(4, 2, 2), true);
        DUE.is("walled(4, 3, 1)", house.walled(4, 3, 1), false);
        DUE.is("walled(4, 3, 2)", house.walled(4, 3, 2), false);
        DUE.is("walled(4, 3, 3)", house.walled(4, 3, 3), false);
        house.wall(8, 2, 3);
        DUE.is("walled(7, 2, 1)", house.walled(7, 2, 1), true);
        DUE.is("no wall on the other side of the house", house.walled(0, 3, 1), false);
        DUE.is("the rim", house.walled(8, 2, 1), true);
        DUE.outOfBounds(house, "walled(9, 0, 0)", () -> house.walled(9, 0, 0));
        DUE.outOfBounds(house, "walled(0, 7, 9)", () -> house.walled(0, 7, 9));
        DUE.outOfBounds(house, "walled(-1, 0, -1)", () -> house.walled(-1, 0, -1));
        DUE.outOfBounds(house, "walled(0, -1, 0)", () -> house.walled(0, -1, 0));
        DUE.badArgument(house, "walled(0, 0, -1)", () -> house.walled(0, 0, -1));
        DUE.badArgument(house, "walled(0, 0, 4)", () -> house.walled(0, 0, 4));
    }

    private static void promise14Count() {
        GhostCandles house = new GhostCandles();
        house.candle(0, 0, 2);
        house.candle(8, 0, 9);
        house.candle(8, 6, 9);
        house.light(8, 6);
        house.mirror(4, 0, true);
        house.mirror(4, 1, false);
        house.tally(4, 3);
        house.tally(5, 3);
        house.tally(6, 3);
        house.wall(0, 4, 1);
        house.wall(0, 5, 1);
        house.wall(0, 6, 0);
        house.wall(8, 0, 2);
        house.come(4, 3, 1);
        house.come(5, 3, 1);
        // From the left above: 5 in the row with its own cell, where the mirror turns it up to the
        // rim, and 5 below, down to the wall. From the right: 4 more in the row, and 2 below the
        // mirror, where the second one turns it: going down, to the right.
        isCounts(house, 0, 2, 3, 2, 2, 3, 4, 5 + 5 + 4 + 2, 0, 0);
        house.pass(1);
        isCounts(house, 1, 2, 3, 2, 2, 3, 4, 5 + 5 + 4 + 2, 2, 2);
        house.pass(12);
        isCounts(house, 13, 2, 3, 0, 2, 3, 4, 0, 26, 62);
        house.remove(4, 3);
        isCounts(house, 13, 2, 3, 0, 2, 2, 4, 0, 26, 31);
        DUE.outOfBounds(house, "count(-1)", () -> house.count(-1));
        DUE.outOfBounds(house, "count(10)", () -> house.count(10));
    }

    private static void isCounts(GhostCandles house, int... due) {
        for (int what = 0; what < due.length; what++) {
            DUE.is("count(" + what + ")", house.count(what), due[what]);
        }
    }

    private static void promise15Shines() {
        GhostCandles house = new GhostCandles();
        DUE.is("shines(0, 0)", house.shines(0, 0), 1 + 6 + 6);
        DUE.is("shines(4, 3)", house.shines(4, 3), 1 + 8 + 6);
        DUE.is("shines(8, 6)", house.shines(8, 6), 1 + 6 + 6);
        house.candle(4, 4, 9);
        long before = house.digest();
        DUE.is("other candles do not count", house.shines(4, 3), 15);
        DUE.is("in the place of a candle", house.shines(4, 4), 15);
        DUE.is("nothing is changed", house.digest(), before);
        house.tally(5, 5);
        DUE.is("in the place of a tally", house.shines(5, 5), 1 + 8 + 6);
        house.mirror(2, 2, true);
        DUE.is("in the place of a mirror", house.shines(2, 2), 1 + 8 + 6);
        house.wall(2, 2, 1);
        DUE.is("beside a wall", house.shines(2, 2), 1 + 2 + 6);
        DUE.outOfBounds(house, "shines(-1, 0)", () -> house.shines(-1, 0));
        DUE.outOfBounds(house, "shines(9, 0)", () -> house.shines(9, 0));
        DUE.outOfBounds(house, "shines(0, -1)", () -> house.shines(0, -1));
        DUE.outOfBounds(house, "shines(0, 7)", () -> house.shines(0, 7));
    }

    private static void promise15ShinesBackToItself() {
        // A beam goes right, up, left and down round four cells, and behind its own cell further
        // down; the other way round it goes up, right, down and left, and further left.
        GhostCandles house = new GhostCandles();
        house.mirror(5, 3, true);
        house.mirror(5, 2, false);
        house.mirror(4, 2, true);
        int without = 1 + 3 + 3 + 4;
        DUE.is("round and back", house.shines(4, 3), 4 + 4 + 3);
        house.mirror(4, 3, false);
        DUE.is("a mirror in its own cell is not there", house.shines(4, 3), without);
        house.remove(4, 3);
        house.candle(4, 3, 5);
        DUE.is("a real candle lights as many", house.count(7), without);
    }
}
