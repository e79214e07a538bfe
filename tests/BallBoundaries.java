/** Promises 2 and 4 to 7: each sentence that names a boundary. */
public final class BallBoundaries {
    private static final int[] FIRST_SETTING = {90, 80, 70};
    private static final int[] HIGHEST_SETTING = {99, 100, 99};

    public static void main(String[] args) throws IllegalAccessException {
        Sentences.test(BallBoundaries.class);
    }

    // ---- put

    @Sentence(of = "Promise 2", says = "Puts a ball onto the felt.")
    static void putPutsABall() {
        HexBilliards x = new HexBilliards();
        x.put(60, 20);
        Check.due("balls on the felt", x.count(0), 1);
        Check.due("the ball on its cell", x.ofCell(60, 2), 0);
        Check.due("its cell", x.ball(0, 0), 60);
        Check.due("its value", x.ball(0, 1), 20);
        Check.due("its steps", x.ball(0, 2), 0);
        Check.due("its banks", x.ball(0, 3), 0);
        Check.due("its hits", x.ball(0, 4), 0);
        x.put(34, 1);
        Check.due("a ball put into an open pot's corner stays", x.ofCell(34, 2), 1);
    }

    @Sentence(of = "Promise 2", says = "This is an act.")
    static void putIsAnAct() {
        Look.act("the first put", new HexBilliards(), x -> x.put(0, 1));
        Look.act("the second put", Table.withBall(0, 0), x -> x.put(0, 1));
    }

    @Sentence(of = "Promise 2", says = "`cell`: 0 to 60")
    static void putOntoCellsZeroToSixty() {
        HexBilliards x = new HexBilliards();
        Check.due("put(0, 1)", x.put(0, 1), 0);
        Check.due("put(60, 1)", x.put(60, 1), 1);
        Check.due("put(-1, 1)", x.put(-1, 1), HexBilliards.UNKNOWN);
        Check.due("put(61, 1)", x.put(61, 1), HexBilliards.UNKNOWN);
    }

    @Sentence(of = "Promise 2", says = "`value`: 1 to 20")
    static void putValuesOneToTwenty() {
        HexBilliards x = new HexBilliards();
        Check.due("put(5, 1)", x.put(5, 1), 0);
        Check.due("put(6, 20)", x.put(6, 20), 1);
        Check.due("put(7, 0)", x.put(7, 0), HexBilliards.BAD_VALUE);
        Check.due("put(7, 21)", x.put(7, 21), HexBilliards.BAD_VALUE);
    }

    @Sentence(of = "Promise 2", says = "Returns its number")
    static void putReturnsZeroToEleven() {
        HexBilliards x = new HexBilliards();
        for (int ball = 0; ball < 12; ball++) {
            Check.due("put " + ball, x.put(60 - ball, 20), ball);
        }
    }

    @Sentence(of = "Promise 2", says = "UNKNOWN (cell)")
    static void putOntoNoCell() {
        HexBilliards x = new HexBilliards();
        Table.refused("cell", 0, 60, HexBilliards.UNKNOWN, cell -> x.put(cell, 1));
        Check.due("NONE as a cell", x.put(HexBilliards.NONE, 1), HexBilliards.UNKNOWN);
    }

    @Sentence(of = "Promise 2", says = "BAD_VALUE")
    static void putABadValue() {
        HexBilliards x = new HexBilliards();
        Table.refused("value", 1, 20, HexBilliards.BAD_VALUE, value -> x.put(60, value));
    }

    @Sentence(of = "Promise 2", says = "NOT_POSSIBLE if the cell has a ball")
    static void putOntoABall() {
        HexBilliards x = Table.withBall(0, 0);
        Check.due("onto ball 0", x.put(30, 7), HexBilliards.NOT_POSSIBLE);
        x.put(0, 1);
        Check.due("onto ball 1", x.put(0, 1), HexBilliards.NOT_POSSIBLE);
        x.move(0, 31);
        Check.due("onto the ball that was moved", x.put(31, 1), HexBilliards.NOT_POSSIBLE);
        Check.due("where it was before", x.put(30, 1), 2);
        x.takeOff(0);
        Check.due("where it was taken off", x.put(31, 1), 3);
        x.shoot(0, 2, 2, 10, 0);
        Check.due("onto a ball that was shot there", x.put(Table.at(0, -1), 1), HexBilliards.NOT_POSSIBLE);
        Check.due("where it was shot from", x.put(30, 1), 4);
    }

    @Sentence(of = "Promise 2", says = "FULL if there have been 12.")
    static void putA13th() {
        HexBilliards x = new HexBilliards();
        for (int ball = 0; ball < 11; ball++) {
            x.put(ball, 1);
        }
        Check.due("the 12th", x.put(60, 1), 11);
        Check.due("the 13th", x.put(59, 1), HexBilliards.FULL);
        x.takeOff(11);
        Check.due("the 13th, one being gone", x.put(60, 1), HexBilliards.FULL);
        Check.due("12 again: the put is undone", x.undo() + x.undo(), 5);
        Check.due("the 12th once more", x.put(60, 1), 11);
    }

    @Sentence(of = "Promise 2",
        says = "Returns its number; UNKNOWN (cell); BAD_VALUE; NOT_POSSIBLE if the cell has a ball; FULL if there have been 12.")
    static void putChecksInOrder() {
        HexBilliards x = Table.withAllBalls();
        Check.due("cell, value, room", x.put(61, 21), HexBilliards.UNKNOWN);
        Check.due("cell, value", new HexBilliards().put(-1, 0), HexBilliards.UNKNOWN);
        Check.due("cell, room", x.put(-1, 1), HexBilliards.UNKNOWN);
        Check.due("value, ball, room", x.put(0, 21), HexBilliards.BAD_VALUE);
        Check.due("value, room", x.put(60, 0), HexBilliards.BAD_VALUE);
        Check.due("value, ball", Table.withBall(0, 0).put(30, 0), HexBilliards.BAD_VALUE);
        Check.due("ball, room", x.put(11, 1), HexBilliards.NOT_POSSIBLE);
    }

    // ---- move

    @Sentence(of = "Promise 4", says = "Moves a ball by hand.")
    static void moveIsNoStep() {
        HexBilliards x = Table.withBall(0, 0);
        x.put(Table.at(1, 0), 8);
        x.move(0, 34);
        Check.due("its cell", x.ball(0, 0), 34);
        Check.due("it stays in a corner whose pot is open", x.ofCell(34, 2), 0);
        Check.due("the cell that it left", x.ofCell(30, 2), HexBilliards.NONE);
        Check.due("its steps", x.ball(0, 2), 0);
        Check.due("it gave no hit", x.count(9), 0);
        Check.due("it is no shot", x.count(6), 0);
        Check.due("the turn", x.count(2), 0);
        Check.due("the other ball", x.ball(1, 0), 31);
    }

    @Sentence(of = "Promise 4", says = "This is an act.")
    static void moveIsAnAct() {
        Look.act("move", Table.withBall(0, 0), x -> x.move(0, 0));
    }

    @Sentence(of = "Promise 4", says = "`ball`: a ball on the felt")
    static void moveTheFirstAndTheLastBall() {
        HexBilliards x = Table.withAllBalls();
        Check.due("ball 0", x.move(0, 60), 0);
        Check.due("ball 11", x.move(11, 59), 11);
        x.takeOff(0);
        Check.due("a ball that is gone", x.move(0, 30), HexBilliards.UNKNOWN);
        Check.due("a ball that never was", Table.withBall(0, 0).move(1, 31), HexBilliards.UNKNOWN);
    }

    @Sentence(of = "Promise 4", says = "`cell`: 0 to 60")
    static void moveToCellsZeroToSixty() {
        HexBilliards x = Table.withBall(0, 0);
        Check.due("to 0", x.move(0, 0), 30);
        Check.due("to 60", x.move(0, 60), 0);
        Check.due("to -1", x.move(0, -1), HexBilliards.UNKNOWN);
        Check.due("to 61", x.move(0, 61), HexBilliards.UNKNOWN);
    }

    @Sentence(of = "Promise 4", says = "Returns the cell where it was")
    static void moveReturnsTheCellBefore() {
        HexBilliards x = new HexBilliards();
        x.put(0, 1);
        Check.due("from the first cell", x.move(0, 60), 0);
        Check.due("from the last cell", x.move(0, 0), 60);
    }

    @Sentence(of = "Promise 4", says = "UNKNOWN (ball or cell)")
    static void moveNoBallOrToNoCell() {
        HexBilliards x = Table.withAllBalls();
        Table.refused("ball", 0, 11, HexBilliards.UNKNOWN, ball -> x.move(ball, 30));
        Table.refused("cell", 0, 60, HexBilliards.UNKNOWN, cell -> x.move(11, cell));
        Check.due("on an empty felt", new HexBilliards().move(0, 0), HexBilliards.UNKNOWN);
        Check.due("NONE as a ball", x.move(HexBilliards.NONE, 30), HexBilliards.UNKNOWN);
    }

    @Sentence(of = "Promise 4", says = "NOT_POSSIBLE if another ball is there")
    static void moveOntoAnother() {
        HexBilliards x = Table.withAllBalls();
        Check.due("onto ball 0", x.move(11, 0), HexBilliards.NOT_POSSIBLE);
        Check.due("onto ball 11", x.move(0, 11), HexBilliards.NOT_POSSIBLE);
        x.takeOff(11);
        Check.due("where a ball was taken off", x.move(0, 11), 0);
    }

    @Sentence(of = "Promise 4", says = "NONE if it is there already.")
    static void moveToItsOwnCell() {
        HexBilliards x = Table.withAllBalls();
        Check.due("ball 0", x.move(0, 0), HexBilliards.NONE);
        Check.due("ball 11", x.move(11, 11), HexBilliards.NONE);
        x.move(0, 60);
        Check.due("behind a move", x.move(0, 60), HexBilliards.NONE);
        Check.due("and back", x.move(0, 0), 60);
    }

    @Sentence(of = "Promise 4",
        says = "Returns the cell where it was; UNKNOWN (ball or cell); NOT_POSSIBLE if another ball is there; NONE if it is there already.")
    static void moveChecksInOrder() {
        HexBilliards x = Table.withAllBalls();
        Check.due("no ball, onto a ball", x.move(12, 0), HexBilliards.UNKNOWN);
        Check.due("no ball, no cell", x.move(12, 61), HexBilliards.UNKNOWN);
        x.takeOff(5);
        Check.due("a gone ball to where it was", x.move(5, 5), HexBilliards.UNKNOWN);
        Check.due("a gone ball onto a ball", x.move(5, 6), HexBilliards.UNKNOWN);
    }

    // ---- takeOff

    @Sentence(of = "Promise 5", says = "Takes a ball away; nobody gets its value.")
    static void takeOffGivesNothing() {
        HexBilliards x = Table.withAllBalls();
        x.takeOff(11);
        Check.due("balls on the felt", x.count(0), 11);
        Check.due("the score of 0", x.count(3), 0);
        Check.due("the score of 1", x.count(4), 0);
        Check.due("the run", x.count(5), 0);
        Check.due("shots", x.count(6), 0);
        Check.due("gone by shots", x.count(7), 0);
        Check.due("the turn", x.count(2), 0);
        Check.due("balls so far", x.count(1), 12);
    }

    @Sentence(of = "Promise 5", says = "This is an act.")
    static void takeOffIsAnAct() {
        Look.act("takeOff", Table.withBall(0, 0), x -> x.takeOff(0));
    }

    @Sentence(of = "Promise 5", says = "`ball`: a ball on the felt")
    static void takeOffTheFirstAndTheLastBall() {
        HexBilliards x = Table.withAllBalls();
        Check.due("ball 0", x.takeOff(0), 0);
        Check.due("ball 11", x.takeOff(11), 11);
        Check.due("ball 0 again", x.takeOff(0), HexBilliards.UNKNOWN);
        Check.due("ball 12", x.takeOff(12), HexBilliards.UNKNOWN);
    }

    @Sentence(of = "Promise 5", says = "Returns the cell where it was")
    static void takeOffReturnsTheCell() {
        HexBilliards x = new HexBilliards();
        x.put(60, 1);
        x.put(0, 1);
        Check.due("from the last cell", x.takeOff(0), 60);
        Check.due("from the first cell", x.takeOff(1), 0);
    }

    @Sentence(of = "Promise 5", says = "UNKNOWN")
    static void takeOffNoBall() {
        HexBilliards x = new HexBilliards();
        Check.due("on an empty felt", x.takeOff(0), HexBilliards.UNKNOWN);
        HexBilliards y = Table.withAllBalls();
        Table.refused("ball", 0, 11, HexBilliards.UNKNOWN, y::takeOff);
        HexBilliards z = Table.withBall(3, 0);
        Check.due("never put", z.takeOff(1), HexBilliards.UNKNOWN);
        z.shoot(0, 0, 0, 10, 0);
        Check.due("gone by a shot", z.takeOff(0), HexBilliards.UNKNOWN);
    }

    // ---- setPots

    @Sentence(of = "Promise 6", says = "Opens and shuts the pots.")
    static void eachPotOfEachSet() {
        HexBilliards x = Table.withBall(0, 0);
        x.setPots(0);
        for (int open = 1; open <= 63; open++) {
            x.setPots(open);
            for (int corner = 0; corner < 6; corner++) {
                int gone = (open >> corner & 1) == 1 ? 0 : HexBilliards.NONE;
                Check.due("set " + open + ", corner " + corner, x.would(0, corner, 14, 0, 3), gone);
            }
        }
    }

    @Sentence(of = "Promise 6", says = "A ball that lies in a corner stays.")
    static void aBallInACornerStays() {
        HexBilliards x = new HexBilliards();
        x.setPots(0);
        for (int corner = 0; corner < 6; corner++) {
            x.put(Table.corner(corner), 1);
        }
        Check.due("all pots open", x.setPots(63), 0);
        Check.due("all shut", x.setPots(0), 63);
        Check.due("all open again", x.setPots(63), 0);
        for (int corner = 0; corner < 6; corner++) {
            Check.due("in corner " + corner, x.ofCell(Table.corner(corner), 2), corner);
        }
        Check.due("balls on the felt", x.count(0), 6);
    }

    @Sentence(of = "Promise 6", says = "This is an act.")
    static void setPotsIsAnAct() {
        Look.act("setPots", new HexBilliards(), x -> x.setPots(0));
    }

    @Sentence(of = "Promise 6", says = "`open`: a set of corners that are open, 0 to 63")
    static void setsZeroToSixtyThree() {
        HexBilliards x = new HexBilliards();
        Check.due("the empty set", x.setPots(0), 63);
        Check.due("it is told", x.count(10), 0);
        Check.due("the full set", x.setPots(63), 0);
        Check.due("it is told", x.count(10), 63);
        Check.due("-1", x.setPots(-1), HexBilliards.BAD_VALUE);
        Check.due("64", x.setPots(64), HexBilliards.BAD_VALUE);
    }

    @Sentence(of = "Promise 6", says = "Returns the previous set")
    static void setPotsReturnsThePreviousSet() {
        HexBilliards x = new HexBilliards();
        Check.due("first all are open", x.setPots(0), 63);
        Check.due("behind none", x.setPots(1), 0);
        Check.due("behind 1", x.setPots(32), 1);
        Check.due("behind 32", x.setPots(63), 32);
    }

    @Sentence(of = "Promise 6", says = "BAD_VALUE")
    static void setPotsOfABadSet() {
        HexBilliards x = new HexBilliards();
        Table.refused("open", 0, 63, HexBilliards.BAD_VALUE, x::setPots);
        Check.due("it is as it was", x.count(10), 63);
    }

    @Sentence(of = "Promise 6", says = "NONE if it is so already.")
    static void setPotsAsTheyAre() {
        HexBilliards x = new HexBilliards();
        Check.due("63 at first", x.setPots(63), HexBilliards.NONE);
        x.setPots(0);
        Check.due("0 behind 0", x.setPots(0), HexBilliards.NONE);
        x.undo();
        Check.due("63 behind undo()", x.setPots(63), HexBilliards.NONE);
    }

    // ---- set

    @Sentence(of = "Promise 7", says = "Sets a setting.")
    static void setSetsJustThatOne() {
        for (int which = 0; which < 3; which++) {
            HexBilliards x = new HexBilliards();
            x.set(which, 50);
            for (int other = 0; other < 3; other++) {
                Check.due("setting " + other, x.count(11 + other), other == which ? 50 : FIRST_SETTING[other]);
            }
        }
    }

    @Sentence(of = "Promise 7", says = "This is an act.")
    static void setIsAnAct() {
        for (int which = 0; which < 3; which++) {
            int setting = which;
            Look.act("set", new HexBilliards(), x -> x.set(setting, 50));
        }
    }

    @Sentence(of = "Promise 7", says = "`which`: 0 to 2")
    static void settingsZeroToTwo() {
        HexBilliards x = new HexBilliards();
        Check.due("setting 0", x.set(0, 60), 90);
        Check.due("setting 2", x.set(2, 60), 70);
        Check.due("setting -1", x.set(-1, 60), HexBilliards.BAD_VALUE);
        Check.due("setting 3", x.set(3, 60), HexBilliards.BAD_VALUE);
    }

    @Sentence(of = "Promise 7", says = "`value`: in its range")
    static void eachSettingInItsRange() {
        for (int which = 0; which < 3; which++) {
            HexBilliards x = new HexBilliards();
            Check.due("the lowest of " + which, x.set(which, 50), FIRST_SETTING[which]);
            Check.due("the highest of " + which, x.set(which, HIGHEST_SETTING[which]), 50);
            Check.due("below " + which, x.set(which, 49), HexBilliards.BAD_VALUE);
            Check.due("above " + which, x.set(which, HIGHEST_SETTING[which] + 1), HexBilliards.BAD_VALUE);
        }
    }

    @Sentence(of = "Promise 7", says = "Returns the previous one")
    static void setReturnsThePreviousOne() {
        for (int which = 0; which < 3; which++) {
            HexBilliards x = new HexBilliards();
            Check.due("the first one of " + which, x.set(which, HIGHEST_SETTING[which]), FIRST_SETTING[which]);
            Check.due("the highest one of " + which, x.set(which, 50), HIGHEST_SETTING[which]);
            Check.due("the lowest one of " + which, x.set(which, 51), 50);
        }
    }

    @Sentence(of = "Promise 7", says = "BAD_VALUE (which or value)")
    static void setABadWhichOrValue() {
        HexBilliards x = new HexBilliards();
        Table.refused("which", 0, 2, HexBilliards.BAD_VALUE, which -> x.set(which, 70));
        Table.refused("which and value", 0, 2, HexBilliards.BAD_VALUE, which -> x.set(which, 0));
        for (int which = 0; which < 3; which++) {
            int setting = which;
            Table.refused("value of " + which, 50, HIGHEST_SETTING[which], HexBilliards.BAD_VALUE,
                value -> x.set(setting, value));
            Check.due("setting " + which, x.count(11 + which), FIRST_SETTING[which]);
        }
    }

    @Sentence(of = "Promise 7", says = "NONE if it is so already.")
    static void setAsItIs() {
        for (int which = 0; which < 3; which++) {
            HexBilliards x = new HexBilliards();
            Check.due("first, " + which, x.set(which, FIRST_SETTING[which]), HexBilliards.NONE);
            x.set(which, 50);
            Check.due("the lowest, " + which, x.set(which, 50), HexBilliards.NONE);
            x.set(which, HIGHEST_SETTING[which]);
            Check.due("the highest, " + which, x.set(which, HIGHEST_SETTING[which]), HexBilliards.NONE);
            Check.due("the first no more, " + which, x.set(which, FIRST_SETTING[which]), HIGHEST_SETTING[which]);
        }
    }
}
