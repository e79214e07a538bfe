import java.util.List;

/** HISTORY, ERRORS and promises 12 to 14: each sentence that names a boundary. */
public final class HistoryBoundaries {
    private static final int STATES = 14;

    public static void main(String[] args) throws IllegalAccessException {
        Sentences.test(HistoryBoundaries.class);
    }

    // ---- HISTORY

    @Sentence(of = "HISTORY", says = "A history of at most 4 states is kept")
    static void fourStates() {
        HexBilliards x = new HexBilliards();
        int[] states = {1, 2, 3, 4, 4, 4};
        for (int i = 0; i < states.length; i++) {
            x.put(i, 1);
            Check.due("states behind put " + i, x.count(STATES), states[i]);
        }
        for (int left = 3; left >= 0; left--) {
            Check.due("undo()", x.undo(), left);
        }
        Check.due("a fifth undo()", x.undo(), HexBilliards.NONE);
    }

    @Sentence(of = "HISTORY", says = "when one more is recorded, the oldest one is dropped")
    static void theOldestIsDropped() {
        HexBilliards x = new HexBilliards();
        for (int i = 0; i < 5; i++) {
            x.put(i, 1);
        }
        for (int balls = 4; balls >= 1; balls--) {
            x.undo();
            Check.due("balls behind undo()", x.count(0), balls);
        }
        x.undo();
        Check.due("the empty felt is dropped", x.count(0), 1);
        for (int i = 0; i < 11; i++) {
            x.put(20 + i, 1);
        }
        for (int i = 0; i < 4; i++) {
            x.undo();
        }
        Check.due("the latest 4 of 11", x.count(0), 8);
    }

    @Sentence(of = "HISTORY", says = "undo() removes and restores the latest one")
    static void undoTakesTheLatest() {
        HexBilliards x = new HexBilliards();
        x.put(1, 1);
        x.put(2, 2);
        x.setPots(5);
        Check.due("two are left", x.undo(), 2);
        Check.due("the pots are as before the last act", x.count(10), 63);
        Check.due("the balls are as they were then", x.count(0), 2);
        x.put(3, 3);
        Check.due("an act behind undo() is recorded in its place", x.count(STATES), 3);
        x.undo();
        Check.due("it is undone", x.ofCell(3, 2), HexBilliards.NONE);
        Check.due("the one before is still there", x.ofCell(2, 2), 1);
    }

    /** Nothing is recorded by calls that are no act, by errors or by NONE. */
    @Sentence(of = "HISTORY", says = "Each call of a method that is described as an act, and returns no error and not NONE, "
        + "records the state that was before it.")
    static void whatRecordsAState() {
        HexBilliards x = new HexBilliards();
        x.put(30, 1);
        Check.due("put", x.count(STATES), 1);
        Table.type(x, "5:1");
        Check.due("type", x.count(STATES), 1);
        x.putAll();
        Check.due("putAll", x.count(STATES), 2);
        x.clearText();
        Check.due("clearText", x.count(STATES), 2);
        x.move(0, 31);
        Check.due("move", x.count(STATES), 3);
        x.takeOff(0);
        Check.due("takeOff", x.count(STATES), 4);
        x.undo();
        x.undo();
        Check.due("undo", x.count(STATES), 2);
        x.setPots(0);
        Check.due("setPots", x.count(STATES), 3);
        x.set(0, 50);
        Check.due("set", x.count(STATES), 4);
        x.undo();
        x.undo();
        x.shoot(0, 0, 0, 10, 0);
        Check.due("shoot", x.count(STATES), 3);
        x.keep();
        Check.due("keep", x.count(STATES), 3);
        x.pass(1);
        Check.due("pass", x.count(STATES), 4);
        x.undo();
        x.restore();
        Check.due("restore", x.count(STATES), 4);
    }

    @Sentence(of = "HISTORY", says = "There is one snapshot, empty at first.")
    static void noSnapshotAtFirst() {
        HexBilliards x = Table.withBall(0, 0);
        Check.due("none at first", x.restore(), HexBilliards.NONE);
        x.undo();
        Check.due("none by undo()", x.restore(), HexBilliards.NONE);
        x.keep();
        x.put(5, 5);
        x.keep();
        x.put(6, 6);
        Check.due("the second one", x.restore(), 1);
        Check.due("again, the first one is not there", x.restore(), 1);
    }

    @Sentence(of = "HISTORY", says = "A state is everything but the text, the history and the snapshot.")
    static void whatAStateIs() {
        HexBilliards x = new HexBilliards();
        x.put(Table.at(3, 0), 20);
        x.put(Table.at(4, -2), 1);
        x.put(Table.at(3, -2), 1);
        List<Integer> before = Look.atState(x);
        x.keep();
        x.type('1');
        aPotAHitAndABank(x);
        x.setPots(5);
        x.set(0, 50);
        Check.holds("much is changed", !Look.atState(x).equals(before));
        for (int i = 0; i < 4; i++) {
            x.undo();
        }
        Check.holds("all is back by undo()", Look.atState(x).equals(before));
        Check.due("but the text", x.count(15), 1);
        aPotAHitAndABank(x);
        x.setPots(5);
        x.set(0, 51);
        x.set(1, 52);
        x.set(2, 53);
        x.put(60, 1);
        x.takeOff(2);
        Check.due("nor is the snapshot away", x.restore(), 3);
        Check.holds("all is back by restore()", Look.atState(x).equals(before));
        for (int ball = 0; ball < 3; ball++) {
            Check.due("the ball on its cell", x.ofCell(x.ball(ball, 0), 2), ball);
        }
        Check.due("but the history", x.count(STATES), 4);
        Check.due("and the text", x.clearText(), 1);
    }

    /** Ball 0 is gone; ball 2 hits ball 1, which banks: 1.8 -> 1.26 -> 1.008 -> a step. */
    private static void aPotAHitAndABank(HexBilliards x) {
        Check.due("a pot", x.shoot(0, 0, 0, 10, 0), 20);
        Check.due("a hit and a bank", x.shoot(0, 2, 0, 18, 0), 0);
        Check.due("hits", x.count(9), 1);
        Check.due("banks", x.count(8), 1);
    }

    // ---- ERRORS

    @Sentence(of = "ERRORS", says = "Where several errors can apply, the order of the @return line is the order of the checks.")
    static void theOrderOfTheChecks() {
        HexBilliards x = Table.withAllBalls();
        Check.due("put: cell, value", x.put(61, 0), HexBilliards.UNKNOWN);
        Check.due("put: value, ball", x.put(0, 0), HexBilliards.BAD_VALUE);
        Check.due("put: ball, room", x.put(0, 1), HexBilliards.NOT_POSSIBLE);
        Check.due("move: ball, ball there", x.move(12, 0), HexBilliards.UNKNOWN);
        Check.due("shoot: player, value", x.shoot(2, 0, 6, 10, 0), HexBilliards.UNKNOWN);
        Check.due("shoot: value, turn", x.shoot(1, 0, 6, 10, 0), HexBilliards.BAD_VALUE);
        Check.due("pass: player, turn", x.pass(2), HexBilliards.UNKNOWN);
        Check.due("ofCell: cell, what", x.ofCell(61, 5), HexBilliards.UNKNOWN);
        Check.due("ball: ball, what", x.ball(12, 5), HexBilliards.UNKNOWN);
        Check.due("would: ball, what", x.would(12, 0, 10, 0, 6), HexBilliards.UNKNOWN);
        Check.due("along: cell, steps", x.along(61, 0, 100, false), HexBilliards.UNKNOWN);
        x.type('x');
        Check.due("putAll: fault, room", x.putAll(), -100);
    }

    @Sentence(of = "ERRORS", says = "NONE is no error; it is returned only if no error applies.")
    static void noneComesLast() {
        HexBilliards x = new HexBilliards();
        Check.due("best, no ball and a bad strength", x.best(9, 0, 0), HexBilliards.BAD_VALUE);
        Check.due("best, no ball and a bad spin", x.best(10, 3, 0), HexBilliards.BAD_VALUE);
        Check.due("best, no ball and a bad what", x.best(10, 0, 3), HexBilliards.BAD_VALUE);
        Check.due("best, no ball", x.best(10, 0, 0), HexBilliards.NONE);
        Check.due("ofCell, no cell and no ball", x.ofCell(61, 2), HexBilliards.UNKNOWN);
        Check.due("ofCell, no ball", x.ofCell(60, 2), HexBilliards.NONE);
        Check.due("would, no ball to be gone", x.would(0, 0, 10, 0, 3), HexBilliards.UNKNOWN);
        x.put(30, 1);
        Check.due("would, a bad spin and nothing gone", x.would(0, 0, 10, 3, 3), HexBilliards.BAD_VALUE);
        x.takeOff(0);
        Check.due("move, a gone ball to its cell", x.move(0, 30), HexBilliards.UNKNOWN);
    }

    @Sentence(of = "ERRORS", says = "A call that returns an error or NONE changes nothing.")
    static void refusedCallsOfBalls() {
        Look.unchanged("put", HistoryBoundaries::aGame, x -> {
            x.put(61, 1);
            x.put(40, 21);
            x.put(x.ball(2, 0), 1);
        });
        Look.unchanged("put without room", HistoryBoundaries::aFullGame, x -> x.put(60, 1));
        Look.unchanged("putAll without room", HistoryBoundaries::aFullGame, x -> x.putAll());
        Look.unchanged("putAll of a fault", x -> Table.type(x, "5:1;"), x -> x.putAll());
        Look.unchanged("putAll onto a ball", x -> Table.type(x, "5:1;5:2"), x -> x.putAll());
        Look.unchanged("move", HistoryBoundaries::aGame, x -> {
            x.move(12, 0);
            x.move(2, 61);
            x.move(2, x.ball(3, 0));
            x.move(2, x.ball(2, 0));
        });
        Look.unchanged("takeOff", HistoryBoundaries::aGame, x -> {
            x.takeOff(-1);
            x.takeOff(1);
            x.takeOff(4);
        });
        Look.unchanged("setPots", HistoryBoundaries::aGame, x -> {
            x.setPots(-1);
            x.setPots(64);
            x.setPots(x.count(10));
        });
        Look.unchanged("set", HistoryBoundaries::aGame, x -> {
            x.set(3, 70);
            x.set(0, 100);
            x.set(1, 49);
            x.set(2, x.count(13));
        });
    }

    @Sentence(of = "ERRORS", says = "A call that returns an error or NONE changes nothing.")
    static void refusedCallsOfShots() {
        Look.unchanged("shoot", HistoryBoundaries::aGame, x -> {
            int turn = x.count(2);
            x.shoot(2, 2, 0, 500, 0);
            x.shoot(turn, 1, 0, 500, 0);
            x.shoot(turn, 2, 6, 500, 0);
            x.shoot(turn, 2, 0, 1000, 0);
            x.shoot(turn, 2, 0, 500, 3);
            x.shoot(1 - turn, 2, 0, 500, 0);
        });
        Look.unchanged("pass", HistoryBoundaries::aGame, x -> {
            x.pass(2);
            x.pass(1 - x.count(2));
        });
        Look.unchanged("would and speedLeft", HistoryBoundaries::aGame, x -> {
            x.would(1, 0, 500, 0, 0);
            x.would(2, 0, 500, 0, 6);
            x.would(2, 0, 500, 0, 3);
            x.speedLeft(2, 0, 1000, 0);
        });
        Look.unchanged("best", HistoryBoundaries::aGame, x -> x.best(999, 3, 0));
        Look.unchanged("best of nothing", x -> x.setPots(0), x -> x.best(999, 2, 0));
    }

    @Sentence(of = "ERRORS", says = "A call that returns an error or NONE changes nothing.")
    static void refusedCallsOfTextsAndHistory() {
        String full = "0:10;1:11;2:12;3:13;4:14;5:15;6:16;7:17;8:18;9:19;10:1;60:20";
        Look.unchanged("type", x -> Table.type(x, full), x -> x.type('x'));
        Look.unchanged("undo", x -> Table.type(x, "5:1"), x -> x.undo());
        Look.unchanged("undo behind undo", x -> x.undo(), x -> x.undo());
        Look.unchanged("restore", x -> x.put(5, 5), x -> x.restore());
    }

    /** A game in its midst: ball 1 is gone, the history is full, there are a snapshot and a text. */
    private static void aGame(HexBilliards x) {
        x.put(30, 5);
        x.put(33, 6);
        x.put(20, 7);
        x.put(40, 8);
        x.keep();
        x.shoot(0, 1, 0, 20, 0);
        x.setPots(21);
        x.set(0, 95);
        x.shoot(0, 2, 4, 200, 1);
        Table.type(x, "50:1;51:2");
    }

    private static void aFullGame(HexBilliards x) {
        for (int i = 0; i < 12; i++) {
            x.put(i, 1);
        }
        Table.type(x, "50:1");
    }

    @Sentence(of = "ERRORS", says = "`UNKNOWN = -1`: There is no such cell, ball (on the felt) or player.")
    static void unknownIsMinusOne() {
        Check.due("UNKNOWN", HexBilliards.UNKNOWN, -1);
        HexBilliards x = new HexBilliards();
        Check.due("a cell", x.ofCell(61, 0), -1);
        Check.due("a ball", x.ball(0, 0), -1);
        Check.due("a player", x.pass(2), -1);
    }

    @Sentence(of = "ERRORS", says = "`BAD_VALUE = -2`: Another argument is out of range.")
    static void badValueIsMinusTwo() {
        Check.due("BAD_VALUE", HexBilliards.BAD_VALUE, -2);
        HexBilliards x = new HexBilliards();
        Check.due("put", x.put(0, 0), -2);
        Check.due("setPots", x.setPots(64), -2);
        Check.due("count", x.count(16), -2);
    }

    @Sentence(of = "ERRORS", says = "`FULL = -3`: There is no more room.")
    static void fullIsMinusThree() {
        Check.due("FULL", HexBilliards.FULL, -3);
        Check.due("put", Table.withAllBalls().put(60, 1), -3);
        HexBilliards x = new HexBilliards();
        for (int i = 0; i < 60; i++) {
            x.type('1');
        }
        Check.due("type", x.type('1'), -3);
    }

    @Sentence(of = "ERRORS", says = "`NOT_POSSIBLE = -4`: This is not possible.")
    static void notPossibleIsMinusFour() {
        Check.due("NOT_POSSIBLE", HexBilliards.NOT_POSSIBLE, -4);
        Check.due("put", Table.withBall(0, 0).put(30, 1), -4);
        Check.due("pass", new HexBilliards().pass(1), -4);
    }

    @Sentence(of = "ERRORS", says = "`NONE = -5`: There is no such thing; not an error.")
    static void noneIsMinusFive() {
        Check.due("NONE", HexBilliards.NONE, -5);
        HexBilliards x = new HexBilliards();
        Check.due("undo", x.undo(), -5);
        Check.due("cell", x.cell(5, 0), -5);
        Check.due("ofCell", x.ofCell(30, 2), -5);
    }

    // ---- undo

    @Sentence(of = "Promise 12", says = "Removes and restores the latest state of the history.")
    static void undoIsNoAct() {
        HexBilliards x = new HexBilliards();
        x.put(5, 5);
        x.undo();
        Check.due("the ball is not there", x.count(0), 0);
        Check.due("nothing is recorded", x.count(STATES), 0);
        Check.due("the state is removed", x.undo(), HexBilliards.NONE);
        Check.due("its number is free again", x.put(6, 6), 0);
    }

    @Sentence(of = "Promise 12", says = "Returns the number of states that are left")
    static void threeToZeroAreLeft() {
        HexBilliards x = Table.withAllBalls();
        for (int left = 3; left >= 0; left--) {
            Check.due("undo()", x.undo(), left);
            Check.due("it is told", x.count(STATES), left);
        }
        HexBilliards y = Table.withBall(0, 0);
        Check.due("the only one", y.undo(), 0);
    }

    @Sentence(of = "Promise 12", says = "NONE if the history is empty.")
    static void nothingToUndo() {
        HexBilliards x = new HexBilliards();
        Check.due("at first", x.undo(), HexBilliards.NONE);
        x.put(61, 1);
        Check.due("behind an error", x.undo(), HexBilliards.NONE);
        x.type('1');
        x.keep();
        Check.due("behind what is no act", x.undo(), HexBilliards.NONE);
        x.put(60, 1);
        x.undo();
        Check.due("behind the last one", x.undo(), HexBilliards.NONE);
        Check.due("and again", x.undo(), HexBilliards.NONE);
        Check.due("nothing is changed", x.count(0), 0);
    }

    // ---- keep and restore

    @Sentence(of = "Promise 13", says = "Takes a snapshot of the state, in place of the one that was.")
    static void keepReplaces() {
        HexBilliards x = Table.withBall(0, 0);
        x.keep();
        x.put(5, 5);
        x.keep();
        x.takeOff(0);
        x.takeOff(1);
        Check.due("the later one", x.restore(), 2);
        Check.due("ball 0", x.ball(0, 0), 30);
        Check.due("ball 1", x.ball(1, 0), 5);
        x.takeOff(0);
        x.keep();
        x.put(40, 1);
        Check.due("with fewer balls", x.restore(), 1);
        Check.due("ball 0 is gone in it", x.ball(0, 0), HexBilliards.UNKNOWN);
        HexBilliards y = Table.withBall(0, 0);
        y.keep();
        Check.due("it is no act", y.count(STATES), 1);
    }

    @Sentence(of = "Promise 13", says = "Returns how many balls are on the felt.")
    static void keepReturnsZeroToTwelve() {
        HexBilliards x = new HexBilliards();
        Check.due("of an empty felt", x.keep(), 0);
        for (int i = 0; i < 12; i++) {
            x.put(i, 1);
            Check.due("behind put", x.keep(), i + 1);
        }
        for (int left = 11; left >= 0; left--) {
            x.takeOff(left);
            Check.due("behind takeOff", x.keep(), left);
        }
    }

    @Sentence(of = "Promise 14", says = "Restores the state of the snapshot, which stays.")
    static void theSnapshotStays() {
        HexBilliards x = Table.withBall(0, 0);
        x.keep();
        for (int i = 0; i < 6; i++) {
            x.shoot(x.count(2), 0, i, 30, 0);
            x.put(i, 1);
            Check.due("restore " + i, x.restore(), 1);
            Check.due("the ball", x.ball(0, 0), 30);
            Check.due("its steps", x.ball(0, 2), 0);
            Check.due("balls so far", x.count(1), 1);
        }
        x.undo();
        Check.due("also behind undo()", x.restore(), 1);
    }

    @Sentence(of = "Promise 14", says = "This is an act.")
    static void restoreIsAnAct() {
        HexBilliards x = Table.withBall(0, 0);
        x.keep();
        Look.act("restore of the same state", x, y -> y.restore());
        x.put(5, 5);
        x.setPots(0);
        Look.act("restore of another one", x, y -> y.restore());
    }

    @Sentence(of = "Promise 14", says = "Returns how many balls are on the felt then")
    static void restoreReturnsZeroToTwelve() {
        HexBilliards x = new HexBilliards();
        x.keep();
        x.put(0, 1);
        Check.due("none", x.restore(), 0);
        HexBilliards full = Table.withAllBalls();
        full.keep();
        for (int ball = 0; ball < 12; ball++) {
            full.takeOff(ball);
        }
        Check.due("12", full.restore(), 12);
    }

    @Sentence(of = "Promise 14", says = "NONE if there is no snapshot.")
    static void nothingToRestore() {
        HexBilliards x = Table.withBall(0, 0);
        Check.due("restore()", x.restore(), HexBilliards.NONE);
        Check.due("the ball stays", x.count(0), 1);
        Check.due("nothing is recorded", x.count(STATES), 1);
        x.keep();
        Check.due("behind keep()", x.restore(), 1);
        Check.due("of another object", new HexBilliards().restore(), HexBilliards.NONE);
    }
}
