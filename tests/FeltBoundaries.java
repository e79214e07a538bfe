/** What it is, THE FELT and promises 1, 15 and 16: each sentence that names a boundary. */
public final class FeltBoundaries {
    public static void main(String[] args) throws IllegalAccessException {
        Sentences.test(FeltBoundaries.class);
    }

    @Sentence(of = "What it is", says = "An object is used for at most 512 calls after it has been made")
    static void theCall512AnswersToo() {
        HexBilliards x = new HexBilliards();
        for (int i = 0; i < 510; i++) {
            Check.due("pass, call " + (i + 1), x.pass(i % 2), 0);
        }
        Check.due("put, call 511", x.put(30, 7), 0);
        Check.due("shoot, call 512", x.shoot(0, 0, 0, 20, 0), 7);
        HexBilliards y = new HexBilliards();
        for (int i = 0; i < 256; i++) {
            Check.due("put, call " + (2 * i + 1), y.put(60, 20), 0);
            Check.due("undo, call " + (2 * i + 2), y.undo(), 0);
        }
        HexBilliards z = Table.shutWithBall(0, 0);
        for (int i = 0; i < 509; i++) {
            Check.due("shoot, call " + (i + 3), z.shoot(i % 2, 0, i % 6, 999, i % 3), 0);
        }
        Check.due("count(6), call 512", z.count(6), 509);
    }

    /** They may answer anything, but not throw nor go on for ever. */
    @Sentence(of = "What it is", says = "what later calls answer is free.")
    static void laterCallsEnd() {
        HexBilliards x = Table.shutWithBall(0, 0);
        for (int i = 0; i < 20000; i++) {
            x.shoot(i % 2, 0, i % 6, 999, i % 3);
            x.put(i % 62, i % 22);
            x.type((char) i);
            x.putAll();
            x.undo();
        }
        Check.holds("all of them came to an end", true);
    }

    @Sentence(of = "THE FELT", says = "with q, r and q + r all from -4 to 4: 61 cells")
    static void cellsEndAtFour() {
        HexBilliards x = new HexBilliards();
        int cells = 0;
        for (int q = -6; q <= 6; q++) {
            for (int r = -6; r <= 6; r++) {
                boolean on = q >= -4 && q <= 4 && r >= -4 && r <= 4 && q + r >= -4 && q + r <= 4;
                cells += on ? 1 : 0;
                Check.holds("(" + q + ", " + r + ") is a cell: " + on, on == (x.cell(q, r) != HexBilliards.NONE));
            }
        }
        Check.due("cells", cells, 61);
    }

    @Sentence(of = "THE FELT", says = "They are numbered from 0 by rising r, of the same r by rising q.")
    static void rowsFollowEachOther() {
        HexBilliards x = new HexBilliards();
        int[] first = {0, 5, 11, 18, 26, 35, 43, 50, 56};
        for (int r = -4; r <= 4; r++) {
            int lowest = Math.max(-4, -4 - r);
            int highest = Math.min(4, 4 - r);
            Check.due("the first cell of row " + r, x.cell(lowest, r), first[r + 4]);
            Check.due("the last cell of row " + r, x.cell(highest, r), (r == 4 ? 61 : first[r + 5]) - 1);
        }
        for (int r = -4; r <= 4; r++) {
            for (int q = Math.max(-4, -4 - r); q <= Math.min(4, 4 - r); q++) {
                Check.due("cell(" + q + ", " + r + ")", x.cell(q, r), Table.at(q, r));
            }
        }
    }

    @Sentence(of = "THE FELT", says = "The directions 0 to 5 are (1, 0), (1, -1), (0, -1), (-1, 0), (-1, 1), (0, 1)")
    static void directionsZeroToFive() {
        HexBilliards x = Table.withBall(0, 0);
        Check.due("direction 0", x.along(30, 0, 1, false), Table.at(1, 0));
        Check.due("direction 1", x.along(30, 1, 1, false), Table.at(1, -1));
        Check.due("direction 2", x.along(30, 2, 1, false), Table.at(0, -1));
        Check.due("direction 3", x.along(30, 3, 1, false), Table.at(-1, 0));
        Check.due("direction 4", x.along(30, 4, 1, false), Table.at(-1, 1));
        Check.due("direction 5", x.along(30, 5, 1, false), Table.at(0, 1));
        Check.due("direction -1", x.along(30, -1, 1, false), HexBilliards.BAD_VALUE);
        Check.due("direction 6", x.along(30, 6, 1, false), HexBilliards.BAD_VALUE);
    }

    @Sentence(of = "THE FELT", says = "a step in a direction adds these to q and r.")
    static void aStepFromEachCell() {
        for (int q = -4; q <= 4; q++) {
            for (int r = Math.max(-4, -4 - q); r <= Math.min(4, 4 - q); r++) {
                HexBilliards x = Table.shutWithBall(q, r);
                for (int d = 0; d < 6; d++) {
                    int cell = x.cell(q + Table.STEP_Q[d], r + Table.STEP_R[d]);
                    if (cell != HexBilliards.NONE) {
                        String step = "from (" + q + ", " + r + ") in direction " + d;
                        Check.due(step + ", along", x.along(Table.at(q, r), d, 1, false), cell);
                        Check.due(step + ", would", x.would(0, d, 10, 0, 4), cell);
                    }
                }
            }
        }
    }

    @Sentence(of = "THE FELT", says = "The corners 0 to 5 are the cells (4, 0), (4, -4), (0, -4), (-4, 0), (-4, 4), (0, 4).")
    static void cornersZeroToFive() {
        HexBilliards x = new HexBilliards();
        Check.due("corner 0", x.ofCell(Table.at(4, 0), 3), 0);
        Check.due("corner 1", x.ofCell(Table.at(4, -4), 3), 1);
        Check.due("corner 2", x.ofCell(Table.at(0, -4), 3), 2);
        Check.due("corner 3", x.ofCell(Table.at(-4, 0), 3), 3);
        Check.due("corner 4", x.ofCell(Table.at(-4, 4), 3), 4);
        Check.due("corner 5", x.ofCell(Table.at(0, 4), 3), 5);
        int corners = 0;
        for (int cell = 0; cell <= 60; cell++) {
            corners += x.ofCell(cell, 3) != HexBilliards.NONE ? 1 : 0;
        }
        Check.due("corners", corners, 6);
    }

    @Sentence(of = "THE FELT", says = "There are at most 12 balls ever")
    static void twelveBallsEver() {
        HexBilliards x = Table.withAllBalls();
        Check.due("12 balls", x.count(1), 12);
        Check.due("a 13th", x.put(60, 1), HexBilliards.FULL);
        for (int ball = 0; ball < 12; ball++) {
            x.takeOff(ball);
        }
        Check.due("no ball is on the felt", x.count(0), 0);
        Check.due("a 13th when all are gone", x.put(60, 1), HexBilliards.FULL);
        Check.due("12 balls so far", x.count(1), 12);
    }

    @Sentence(of = "THE FELT", says = "numbered from 0 (never given again)")
    static void numbersAreNotGivenAgain() {
        HexBilliards x = new HexBilliards();
        Check.due("the first ball", x.put(33, 5), 0);
        x.takeOff(0);
        Check.due("when 0 is taken away", x.put(33, 5), 1);
        Check.due("into the pot", x.shoot(0, 1, 0, 10, 0), 5);
        Check.due("when 1 is gone by a shot", x.put(33, 5), 2);
        Check.due("0 stays gone", x.ball(0, 0), HexBilliards.UNKNOWN);
        Check.due("1 stays gone", x.ball(1, 0), HexBilliards.UNKNOWN);
    }

    @Sentence(of = "THE FELT", says = "each with a value (1 to 20)")
    static void valuesOneToTwenty() {
        HexBilliards x = new HexBilliards();
        for (int value = 1; value <= 20; value++) {
            Check.due("put a value", x.put(30, value), 0);
            Check.due("the value", x.ball(0, 1), value);
            x.undo();
        }
        Check.due("value 0", x.put(30, 0), HexBilliards.BAD_VALUE);
        Check.due("value 21", x.put(30, 21), HexBilliards.BAD_VALUE);
    }

    @Sentence(of = "THE FELT", says = "on a cell, or gone")
    static void aGoneBallIsNowhere() {
        HexBilliards x = Table.withBall(3, 0);
        x.put(60, 9);
        x.shoot(0, 0, 0, 10, 0);
        x.takeOff(1);
        for (int ball = 0; ball < 2; ball++) {
            Check.due("ball", x.ball(ball, 0), HexBilliards.UNKNOWN);
            Check.due("move", x.move(ball, 5), HexBilliards.UNKNOWN);
            Check.due("takeOff", x.takeOff(ball), HexBilliards.UNKNOWN);
            Check.due("shoot", x.shoot(0, ball, 0, 10, 0), HexBilliards.UNKNOWN);
            Check.due("would", x.would(ball, 0, 10, 0, 0), HexBilliards.UNKNOWN);
            Check.due("speedLeft", x.speedLeft(ball, 0, 10, 0), -1.0);
        }
        for (int cell = 0; cell <= 60; cell++) {
            Check.due("the ball on " + cell, x.ofCell(cell, 2), HexBilliards.NONE);
        }
        Check.due("balls on the felt", x.count(0), 0);
    }

    @Sentence(of = "THE FELT", says = "A cell has at most one ball.")
    static void oneBallOnACell() {
        HexBilliards x = Table.withBall(0, 0);
        x.put(Table.at(1, 0), 8);
        Check.due("put", x.put(30, 8), HexBilliards.NOT_POSSIBLE);
        Check.due("move", x.move(1, 30), HexBilliards.NOT_POSSIBLE);
        Table.type(x, "30:8");
        Check.due("putAll", x.putAll(), HexBilliards.NOT_POSSIBLE);
        x.shoot(0, 0, 0, 10, 0);
        Check.due("a shot at a ball beside", x.ball(0, 0), 30);
        Check.due("the ball beside", x.ball(1, 0), 31);
        Check.due("a ball leaves its cell", x.move(1, 60), 31);
        Check.due("it is free then", x.put(31, 1), 2);
    }

    @Sentence(of = "Promise 1", says = "Creates a felt without balls.")
    static void aNewFeltIsEmpty() {
        HexBilliards x = Table.withAllBalls();
        HexBilliards y = new HexBilliards();
        Check.due("balls of another one", x.count(0), 12);
        Check.due("balls on the felt", y.count(0), 0);
        Check.due("balls so far", y.count(1), 0);
        for (int ball = 0; ball < 12; ball++) {
            Check.due("ball " + ball, y.ball(ball, 0), HexBilliards.UNKNOWN);
        }
        for (int cell = 0; cell <= 60; cell++) {
            Check.due("on cell " + cell, y.ofCell(cell, 2), HexBilliards.NONE);
        }
    }

    private static void farCells(String call, HexBilliards x) {
        // Sums that wrap around: q + r is in its range by the machine's arithmetic alone.
        int[][] wrapped = {{Integer.MIN_VALUE, Integer.MIN_VALUE}, {Integer.MAX_VALUE, Integer.MIN_VALUE},
            {Integer.MAX_VALUE, Integer.MIN_VALUE + 1}, {Integer.MIN_VALUE, Integer.MAX_VALUE}};
        for (int[] cell : wrapped) {
            Check.due(call + " far away", x.cell(cell[0], cell[1]), HexBilliards.NONE);
        }
    }

    @Sentence(of = "Promise 15", says = "`q`: any number")
    static void anyNumberForQ() {
        HexBilliards x = new HexBilliards();
        Check.due("q -4", x.cell(-4, 0), 26);
        Check.due("q 4", x.cell(4, 0), 34);
        Table.refused("q", -4, 4, HexBilliards.NONE, q -> x.cell(q, 0));
        Table.refused("q, with r 4", -4, 0, HexBilliards.NONE, q -> x.cell(q, 4));
        Table.refused("q, with r -4", 0, 4, HexBilliards.NONE, q -> x.cell(q, -4));
        farCells("q", x);
    }

    @Sentence(of = "Promise 15", says = "`r`: any number")
    static void anyNumberForR() {
        HexBilliards x = new HexBilliards();
        Check.due("r -4", x.cell(0, -4), 0);
        Check.due("r 4", x.cell(0, 4), 60);
        Table.refused("r", -4, 4, HexBilliards.NONE, r -> x.cell(0, r));
        Table.refused("r, with q 4", -4, 0, HexBilliards.NONE, r -> x.cell(4, r));
        Table.refused("r, with q -4", 0, 4, HexBilliards.NONE, r -> x.cell(-4, r));
        farCells("r", x);
    }

    @Sentence(of = "Promise 15", says = "Returns the number of the cell")
    static void theFirstAndTheLastNumber() {
        HexBilliards x = new HexBilliards();
        Check.due("the first cell", x.cell(0, -4), 0);
        Check.due("the one in the middle", x.cell(0, 0), 30);
        Check.due("the last cell", x.cell(0, 4), 60);
    }

    @Sentence(of = "Promise 15", says = "NONE if it is not on the felt")
    static void behindEachWall() {
        HexBilliards x = new HexBilliards();
        int[][] outside = {{5, -2}, {-5, 2}, {2, -5}, {-2, 5}, {3, 2}, {-3, -2}};
        int[][] inside = {{4, -2}, {-4, 2}, {2, -4}, {-2, 4}, {2, 2}, {-2, -2}};
        for (int wall = 0; wall < 6; wall++) {
            Check.due("behind wall " + wall, x.cell(outside[wall][0], outside[wall][1]), HexBilliards.NONE);
            Check.due("before wall " + wall, x.cell(inside[wall][0], inside[wall][1]),
                Table.at(inside[wall][0], inside[wall][1]));
        }
        for (int d = 0; d < 6; d++) {
            Check.due("behind corner " + d, x.cell(Table.STEP_Q[d] * 5, Table.STEP_R[d] * 5), HexBilliards.NONE);
        }
    }

    @Sentence(of = "Promise 16", says = "`cell`: 0 to 60")
    static void cellsZeroToSixty() {
        HexBilliards x = new HexBilliards();
        Check.due("q of cell 0", x.ofCell(0, 0), 4);
        Check.due("r of cell 0", x.ofCell(0, 1), 0);
        Check.due("q of cell 60", x.ofCell(60, 0), 4);
        Check.due("r of cell 60", x.ofCell(60, 1), 8);
        Table.refused("cell", 0, 60, HexBilliards.UNKNOWN, cell -> x.ofCell(cell, 0));
    }

    @Sentence(of = "Promise 16", says = "0 for q and 4 more")
    static void qOfEachCell() {
        HexBilliards x = new HexBilliards();
        Check.due("the lowest q", x.ofCell(26, 0), 0);
        Check.due("the highest q", x.ofCell(34, 0), 8);
        for (int q = -4; q <= 4; q++) {
            for (int r = Math.max(-4, -4 - q); r <= Math.min(4, 4 - q); r++) {
                Check.due("q of (" + q + ", " + r + ")", x.ofCell(Table.at(q, r), 0), q + 4);
            }
        }
    }

    @Sentence(of = "Promise 16", says = "1 for r and 4 more")
    static void rOfEachCell() {
        HexBilliards x = new HexBilliards();
        Check.due("the lowest r", x.ofCell(0, 1), 0);
        Check.due("the highest r", x.ofCell(60, 1), 8);
        for (int q = -4; q <= 4; q++) {
            for (int r = Math.max(-4, -4 - q); r <= Math.min(4, 4 - q); r++) {
                Check.due("r of (" + q + ", " + r + ")", x.ofCell(Table.at(q, r), 1), r + 4);
            }
        }
    }

    @Sentence(of = "Promise 16", says = "2 for the ball there (NONE without one)")
    static void theBallThere() {
        HexBilliards x = Table.withAllBalls();
        Check.due("the lowest ball", x.ofCell(0, 2), 0);
        Check.due("the highest ball", x.ofCell(11, 2), 11);
        Check.due("without one", x.ofCell(12, 2), HexBilliards.NONE);
        x.takeOff(0);
        x.move(11, 60);
        Check.due("without one more", x.ofCell(0, 2), HexBilliards.NONE);
        Check.due("moved from", x.ofCell(11, 2), HexBilliards.NONE);
        Check.due("moved to", x.ofCell(60, 2), 11);
    }

    @Sentence(of = "Promise 16", says = "3 for the corner that it is (NONE if it is none)")
    static void theCornerThatItIs() {
        HexBilliards x = new HexBilliards();
        int[] corners = {34, 4, 0, 26, 56, 60};
        for (int corner = 0; corner < 6; corner++) {
            Check.due("cell " + corners[corner], x.ofCell(corners[corner], 3), corner);
        }
        int[] besideCorners = {1, 3, 5, 10, 18, 25, 33, 27, 35, 42, 50, 55, 57, 59, 30};
        for (int cell : besideCorners) {
            Check.due("cell " + cell, x.ofCell(cell, 3), HexBilliards.NONE);
        }
    }

    @Sentence(of = "Promise 16", says = "4 for the cells beside it that are on the felt (how many)")
    static void cellsBeside() {
        HexBilliards x = new HexBilliards();
        for (int q = -4; q <= 4; q++) {
            for (int r = Math.max(-4, -4 - q); r <= Math.min(4, 4 - q); r++) {
                int far = Math.max(Math.max(Math.abs(q), Math.abs(r)), Math.abs(q + r));
                boolean corner = far == 4 && (q == 0 || r == 0 || q + r == 0);
                int want = corner ? 3 : far == 4 ? 4 : 6;
                Check.due("beside (" + q + ", " + r + ")", x.ofCell(Table.at(q, r), 4), want);
            }
        }
        x.put(31, 1);
        Check.due("a cell with a ball counts too", x.ofCell(30, 4), 6);
    }

    @Sentence(of = "Promise 16", says = "UNKNOWN")
    static void noCell() {
        HexBilliards x = Table.withAllBalls();
        for (int what = 0; what <= 4; what++) {
            for (int cell : Table.outside(0, 60)) {
                Check.due("ofCell(" + cell + ", " + what + ")", x.ofCell(cell, what), HexBilliards.UNKNOWN);
            }
        }
        Check.due("NONE as a cell", x.ofCell(HexBilliards.NONE, 2), HexBilliards.UNKNOWN);
    }

    @Sentence(of = "Promise 16", says = "BAD_VALUE")
    static void noSuchWhatOfACell() {
        HexBilliards x = new HexBilliards();
        Table.refused("what, cell 0", 0, 4, HexBilliards.BAD_VALUE, what -> x.ofCell(0, what));
        Table.refused("what, cell 60", 0, 4, HexBilliards.BAD_VALUE, what -> x.ofCell(60, what));
    }

    @Sentence(of = "Promise 16", says = "Returns the number; UNKNOWN; BAD_VALUE.")
    static void theCellIsCheckedFirst() {
        HexBilliards x = new HexBilliards();
        for (int cell : Table.outside(0, 60)) {
            Table.refused("what, cell " + cell, 0, 4, HexBilliards.UNKNOWN, what -> x.ofCell(cell, what));
        }
    }
}
