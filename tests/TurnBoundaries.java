/** PLAYERS and promises 8 and 9: each sentence that names a boundary. */
public final class TurnBoundaries {
    private static final int TURN = 2;
    private static final int RUN = 5;
    private static final int SHOTS = 6;

    public static void main(String[] args) throws IllegalAccessException {
        Sentences.test(TurnBoundaries.class);
    }

    /** A ball before each corner: ball d goes into corner d by a step in direction d. Values 1, 2, 3, 18, 19, 20. */
    private static HexBilliards beforeEachPot() {
        int[] values = {1, 2, 3, 18, 19, 20};
        HexBilliards x = new HexBilliards();
        for (int d = 0; d < 6; d++) {
            x.put(Table.at(3 * Table.STEP_Q[d], 3 * Table.STEP_R[d]), values[d]);
        }
        return x;
    }

    // ---- PLAYERS

    @Sentence(of = "PLAYERS", says = "There are two players, 0 and 1")
    static void playersZeroAndOne() {
        HexBilliards x = new HexBilliards();
        Check.due("player -1", x.pass(-1), HexBilliards.UNKNOWN);
        Check.due("player 2", x.pass(2), HexBilliards.UNKNOWN);
        Check.due("player 0", x.pass(0), 0);
        Check.due("player 1", x.pass(1), 0);
        Check.due("player 0 comes behind player 1", x.count(TURN), 0);
    }

    @Sentence(of = "PLAYERS", says = "player 0 begins")
    static void playerZeroBegins() {
        HexBilliards x = Table.withBall(0, 0);
        Check.due("the turn", x.count(TURN), 0);
        Check.due("player 1 can't shoot", x.shoot(1, 0, 0, 10, 0), HexBilliards.NOT_POSSIBLE);
        Check.due("player 1 can't pass", x.pass(1), HexBilliards.NOT_POSSIBLE);
        Check.due("player 0 can shoot", x.shoot(0, 0, 0, 10, 0), 0);
    }

    @Sentence(of = "PLAYERS", says = "Who shoots gets the value of a ball that is gone by the shot, and goes on")
    static void whoPotsGoesOn() {
        HexBilliards x = beforeEachPot();
        Check.due("the lowest value", x.shoot(0, 0, 0, 10, 0), 1);
        Check.due("the score of 0", x.count(3), 1);
        Check.due("the score of 1", x.count(4), 0);
        Check.due("0 goes on", x.count(TURN), 0);
        x.pass(0);
        Check.due("the highest value", x.shoot(1, 5, 5, 10, 0), 20);
        Check.due("the score of 0", x.count(3), 1);
        Check.due("the score of 1", x.count(4), 20);
        Check.due("1 goes on", x.count(TURN), 1);
        Check.due("0 can't shoot then", x.shoot(0, 1, 1, 10, 0), HexBilliards.NOT_POSSIBLE);
        // Ball 6 hits ball 1 into its pot: 2.0 -> 1.4 -> a step.
        x.put(Table.at(2, -2), 9);
        Check.due("not the value of the ball that was shot", x.shoot(1, 6, 1, 20, 0), 2);
        Check.due("the score of 1", x.count(4), 22);
    }

    @Sentence(of = "PLAYERS", says = "if none is gone, it is the other one's turn")
    static void aMissEndsTheTurn() {
        HexBilliards x = Table.withBall(0, 0);
        Check.due("a miss of 0", x.shoot(0, 0, 0, 10, 0), 0);
        Check.due("1 comes", x.count(TURN), 1);
        Check.due("0 can't shoot", x.shoot(0, 0, 0, 10, 0), HexBilliards.NOT_POSSIBLE);
        Check.due("a miss of 1", x.shoot(1, 0, 3, 10, 0), 0);
        Check.due("0 comes", x.count(TURN), 0);
        Check.due("nobody got something", x.count(3) + x.count(4), 0);
    }

    @Sentence(of = "PLAYERS", says = "The run of a player is how many balls are gone by shots in a row of this player")
    static void runsGrow() {
        HexBilliards x = beforeEachPot();
        Check.due("at first", x.count(RUN), 0);
        for (int d = 0; d < 6; d++) {
            x.shoot(0, d, d, 10, 0);
            Check.due("run", x.count(RUN), d + 1);
        }
        x.put(33, 1);
        x.takeOff(6);
        Check.due("a ball taken off is none", x.count(RUN), 6);
    }

    @Sentence(of = "PLAYERS", says = "it is 0 when the other one comes to shoot")
    static void theRunOfTheOtherOneBeginsAtZero() {
        HexBilliards x = beforeEachPot();
        x.shoot(0, 0, 0, 10, 0);
        x.shoot(0, 1, 1, 10, 0);
        x.shoot(0, 2, 5, 10, 0);
        Check.due("behind a miss", x.count(RUN), 0);
        x.shoot(1, 3, 3, 10, 0);
        Check.due("a run of 1", x.count(RUN), 1);
        x.pass(1);
        Check.due("behind a pass", x.count(RUN), 0);
        x.shoot(0, 4, 4, 10, 0);
        Check.due("0 does not go on with 2", x.count(RUN), 1);
        x.shoot(0, 5, 2, 10, 0);
        x.pass(1);
        Check.due("0 comes without a run again", x.count(RUN), 0);
    }

    @Sentence(of = "PLAYERS", says = "The pots of all 6 corners are open at first.")
    static void allPotsAreOpenAtFirst() {
        HexBilliards x = Table.withBall(0, 0);
        Check.due("the set", x.count(10), 63);
        for (int d = 0; d < 6; d++) {
            Check.due("corner " + d, x.would(0, d, 14, 0, 3), 0);
        }
    }

    // ---- shoot

    @Sentence(of = "Promise 8", says = "A player shoots.")
    static void aShotIsCounted() {
        HexBilliards x = Table.withBall(4, -2);
        x.shoot(0, 0, 0, 10, 0);
        Check.due("a shot without a step is a shot", x.count(SHOTS), 1);
        Check.due("its bank", x.ball(0, 3), 1);
        Check.due("its bank of all", x.count(8), 1);
        Check.due("its steps", x.ball(0, 2), 0);
        Check.due("the turn goes on by it", x.count(TURN), 1);
    }

    @Sentence(of = "Promise 8", says = "This is an act.")
    static void shootIsAnAct() {
        Look.act("a shot at nothing", Table.withBall(0, 0), x -> x.shoot(0, 0, 0, 10, 0));
        Look.act("a shot into a pot", Table.withBall(0, 0), x -> x.shoot(0, 0, 0, 14, 0));
        Look.act("a shot that banks where it is", Table.withBall(4, -2), x -> x.shoot(0, 0, 0, 10, 0));
        HexBilliards hit = Table.withBall(0, 0);
        hit.put(31, 9);
        Look.act("a shot at a ball", hit, x -> x.shoot(0, 0, 0, 30, 2));
    }

    @Sentence(of = "Promise 8", says = "`player`: 0 or 1")
    static void shootAsZeroOrOne() {
        HexBilliards x = Table.withBall(0, 0);
        Check.due("player -1", x.shoot(-1, 0, 0, 10, 0), HexBilliards.UNKNOWN);
        Check.due("player 2", x.shoot(2, 0, 0, 10, 0), HexBilliards.UNKNOWN);
        Check.due("player 0", x.shoot(0, 0, 0, 10, 0), 0);
        Check.due("player 1", x.shoot(1, 0, 0, 10, 0), 0);
    }

    @Sentence(of = "Promise 8", says = "`ball`: a ball on the felt")
    static void shootTheFirstAndTheLastBall() {
        HexBilliards x = Table.withAllBalls();
        Check.due("ball 0", x.shoot(0, 0, 4, 10, 0), 0);
        Check.due("it hit the ball beside it", x.ball(0, 4), 1);
        Check.due("ball 11", x.shoot(1, 11, 5, 10, 0), 0);
        Check.due("it moved", x.ball(11, 2), 1);
        Check.due("ball 12", x.shoot(0, 12, 0, 10, 0), HexBilliards.UNKNOWN);
        x.takeOff(11);
        Check.due("a gone ball", x.shoot(0, 11, 0, 10, 0), HexBilliards.UNKNOWN);
        Check.due("a ball that never was", Table.withBall(0, 0).shoot(0, 1, 0, 10, 0), HexBilliards.UNKNOWN);
    }

    @Sentence(of = "Promise 8", says = "`direction`: 0 to 5")
    static void shootInDirectionsZeroToFive() {
        HexBilliards x = Table.withBall(0, 0);
        Check.due("direction 0", x.shoot(0, 0, 0, 10, 0), 0);
        Check.due("its cell", x.ball(0, 0), Table.at(1, 0));
        Check.due("direction 5", x.shoot(1, 0, 5, 10, 0), 0);
        Check.due("its cell", x.ball(0, 0), Table.at(1, 1));
        Check.due("direction -1", x.shoot(0, 0, -1, 10, 0), HexBilliards.BAD_VALUE);
        Check.due("direction 6", x.shoot(0, 0, 6, 10, 0), HexBilliards.BAD_VALUE);
    }

    @Sentence(of = "Promise 8", says = "`strength`: 10 to 999")
    static void shootWithStrengthsTenTo999() {
        HexBilliards x = Table.withBall(0, 0);
        Check.due("strength 10", x.shoot(0, 0, 0, 10, 0), 0);
        Check.due("strength 999", x.shoot(1, 0, 0, 999, 0), 7);
        HexBilliards y = Table.withBall(0, 0);
        Check.due("strength 9", y.shoot(0, 0, 0, 9, 0), HexBilliards.BAD_VALUE);
        Check.due("strength 1000", y.shoot(0, 0, 0, 1000, 0), HexBilliards.BAD_VALUE);
    }

    @Sentence(of = "Promise 8", says = "`spin`: 0 to 2")
    static void shootWithSpinsZeroToTwo() {
        HexBilliards x = Table.withBall(0, 0);
        Check.due("spin -1", x.shoot(0, 0, 0, 10, -1), HexBilliards.BAD_VALUE);
        Check.due("spin 3", x.shoot(0, 0, 0, 10, 3), HexBilliards.BAD_VALUE);
        Check.due("spin 0", x.shoot(0, 0, 0, 10, 0), 0);
        Check.due("spin 2", x.shoot(1, 0, 3, 10, 2), 0);
    }

    @Sentence(of = "Promise 8", says = "Returns the value of the ball that is gone by it, 0 if none is")
    static void shootReturnsOneToTwentyOrZero() {
        HexBilliards x = beforeEachPot();
        int[] values = {1, 2, 3, 18, 19, 20};
        for (int d = 0; d < 6; d++) {
            Check.due("ball " + d, x.shoot(0, d, d, 10, 0), values[d]);
        }
        x.put(30, 20);
        Check.due("none is gone", x.shoot(0, 6, 0, 10, 0), 0);
        HexBilliards inACorner = new HexBilliards();
        inACorner.put(34, 20);
        Check.due("a ball that stays in a corner", inACorner.shoot(0, 0, 0, 10, 0), 0);
    }

    @Sentence(of = "Promise 8", says = "UNKNOWN (player or ball)")
    static void shootAsNobodyOrNoBall() {
        HexBilliards x = Table.withAllBalls();
        Table.refused("player", 0, 1, HexBilliards.UNKNOWN, player -> x.shoot(player, 0, 0, 10, 0));
        Table.refused("ball", 0, 11, HexBilliards.UNKNOWN, ball -> x.shoot(0, ball, 0, 10, 0));
        Check.due("NONE as a ball", x.shoot(0, HexBilliards.NONE, 0, 10, 0), HexBilliards.UNKNOWN);
        Check.due("an empty felt", new HexBilliards().shoot(0, 0, 0, 10, 0), HexBilliards.UNKNOWN);
    }

    @Sentence(of = "Promise 8", says = "BAD_VALUE")
    static void shootWithABadValue() {
        HexBilliards x = Table.withBall(0, 0);
        Table.refused("direction", 0, 5, HexBilliards.BAD_VALUE, direction -> x.shoot(0, 0, direction, 10, 0));
        Table.refused("strength", 10, 999, HexBilliards.BAD_VALUE, strength -> x.shoot(0, 0, 0, strength, 0));
        Table.refused("spin", 0, 2, HexBilliards.BAD_VALUE, spin -> x.shoot(0, 0, 0, 10, spin));
        Check.due("the ball stays", x.ball(0, 0), 30);
    }

    @Sentence(of = "Promise 8", says = "NOT_POSSIBLE if it is the other one's turn.")
    static void shootOutOfTurn() {
        HexBilliards x = Table.withBall(0, 0);
        Check.due("1 at the turn of 0", x.shoot(1, 0, 0, 10, 0), HexBilliards.NOT_POSSIBLE);
        x.pass(0);
        Check.due("0 at the turn of 1", x.shoot(0, 0, 0, 10, 0), HexBilliards.NOT_POSSIBLE);
        Check.due("1 at its own", x.shoot(1, 0, 0, 14, 0), 7);
        x.put(30, 1);
        Check.due("0 when 1 goes on", x.shoot(0, 1, 0, 10, 0), HexBilliards.NOT_POSSIBLE);
        Check.due("shots", x.count(SHOTS), 1);
    }

    @Sentence(of = "Promise 8", says = "Returns the value of the ball that is gone by it, 0 if none is; UNKNOWN (player or ball); "
        + "BAD_VALUE; NOT_POSSIBLE if it is the other one's turn.")
    static void shootChecksInOrder() {
        HexBilliards x = Table.withBall(0, 0);
        Check.due("player, value", x.shoot(2, 0, 6, 10, 0), HexBilliards.UNKNOWN);
        Check.due("ball, value", x.shoot(0, 1, 0, 9, 0), HexBilliards.UNKNOWN);
        Check.due("ball, turn", x.shoot(1, 1, 0, 10, 0), HexBilliards.UNKNOWN);
        Check.due("ball, value, turn", x.shoot(1, 1, 0, 10, 3), HexBilliards.UNKNOWN);
        Check.due("direction, turn", x.shoot(1, 0, 6, 10, 0), HexBilliards.BAD_VALUE);
        Check.due("strength, turn", x.shoot(1, 0, 0, 1000, 0), HexBilliards.BAD_VALUE);
        Check.due("spin, turn", x.shoot(1, 0, 0, 10, -1), HexBilliards.BAD_VALUE);
    }

    // ---- pass

    @Sentence(of = "Promise 9", says = "A player passes: it is the other one's turn.")
    static void passGivesTheTurn() {
        HexBilliards x = Table.withBall(0, 0);
        x.pass(0);
        Check.due("1 comes", x.count(TURN), 1);
        x.pass(1);
        Check.due("0 comes", x.count(TURN), 0);
        Check.due("shots", x.count(SHOTS), 0);
        Check.due("scores", x.count(3) + x.count(4), 0);
        Check.due("the ball stays", x.ball(0, 0), 30);
    }

    @Sentence(of = "Promise 9", says = "This is an act.")
    static void passIsAnAct() {
        Look.act("pass without a run", new HexBilliards(), x -> x.pass(0));
        HexBilliards run = beforeEachPot();
        run.shoot(0, 0, 0, 10, 0);
        run.shoot(0, 1, 1, 10, 0);
        run.keep();
        Look.act("pass with a run", run, x -> x.pass(0));
    }

    @Sentence(of = "Promise 9", says = "`player`: 0 or 1")
    static void passAsZeroOrOne() {
        HexBilliards x = new HexBilliards();
        Check.due("pass(0)", x.pass(0), 0);
        Check.due("pass(1)", x.pass(1), 0);
        Check.due("pass(-1)", x.pass(-1), HexBilliards.UNKNOWN);
        Check.due("pass(2)", x.pass(2), HexBilliards.UNKNOWN);
    }

    @Sentence(of = "Promise 9", says = "Returns the run that the player had")
    static void passReturnsTheRun() {
        HexBilliards x = beforeEachPot();
        Check.due("no run", x.pass(0), 0);
        for (int d = 0; d < 6; d++) {
            x.shoot(1, d, d, 10, 0);
        }
        Check.due("a run of 6", x.pass(1), 6);
        Check.due("no run of the other one", x.pass(0), 0);
        Check.due("no run at the next turn", x.pass(1), 0);
    }

    @Sentence(of = "Promise 9", says = "UNKNOWN")
    static void passAsNobody() {
        HexBilliards x = new HexBilliards();
        Table.refused("player, at the turn of 0", 0, 1, HexBilliards.UNKNOWN, x::pass);
        x.pass(0);
        Table.refused("player, at the turn of 1", 0, 1, HexBilliards.UNKNOWN, x::pass);
    }

    @Sentence(of = "Promise 9", says = "NOT_POSSIBLE if it is the other one's turn.")
    static void passOutOfTurn() {
        HexBilliards x = new HexBilliards();
        Check.due("1 at first", x.pass(1), HexBilliards.NOT_POSSIBLE);
        Check.due("0 stays", x.count(TURN), 0);
        x.pass(0);
        Check.due("0 again", x.pass(0), HexBilliards.NOT_POSSIBLE);
        Check.due("1 stays", x.count(TURN), 1);
    }

    @Sentence(of = "Promise 9", says = "Returns the run that the player had; UNKNOWN; NOT_POSSIBLE if it is the other one's turn.")
    static void passChecksThePlayerFirst() {
        HexBilliards x = new HexBilliards();
        x.pass(0);
        Check.due("a player that is not, at the turn of 1", x.pass(-1), HexBilliards.UNKNOWN);
        Check.due("a player that is, but not at its turn", x.pass(0), HexBilliards.NOT_POSSIBLE);
    }
}
