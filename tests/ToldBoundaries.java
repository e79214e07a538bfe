import java.util.List;

/** Promises 17 to 22: each sentence that names a boundary. */
public final class ToldBoundaries {
    public static void main(String[] args) throws IllegalAccessException {
        Sentences.test(ToldBoundaries.class);
    }

    // ---- ball

    @Sentence(of = "Promise 17", says = "`ball`: a ball on the felt")
    static void tellOfTheFirstAndTheLastBall() {
        HexBilliards x = Table.withAllBalls();
        Check.due("ball 0", x.ball(0, 1), 1);
        Check.due("ball 11", x.ball(11, 1), 12);
        x.takeOff(0);
        Check.due("a gone ball", x.ball(0, 1), HexBilliards.UNKNOWN);
        Check.due("a ball that never was", Table.withBall(0, 0).ball(1, 1), HexBilliards.UNKNOWN);
    }

    @Sentence(of = "Promise 17", says = "0 for its cell")
    static void cellsOfBalls() {
        HexBilliards x = Table.withBall(0, 0);
        for (int cell = 60; cell >= 0; cell--) {
            x.move(0, cell);
            Check.due("its cell", x.ball(0, 0), cell);
        }
    }

    @Sentence(of = "Promise 17", says = "1 for its value")
    static void valuesOfBalls() {
        HexBilliards x = new HexBilliards();
        x.put(0, 1);
        x.put(1, 20);
        Check.due("the lowest", x.ball(0, 1), 1);
        Check.due("the highest", x.ball(1, 1), 20);
        x.shoot(0, 0, 5, 20, 0);
        Check.due("it stays the same by a shot", x.ball(0, 1), 1);
    }

    @Sentence(of = "Promise 17", says = "2 for the steps that it made so far")
    static void stepsOfBalls() {
        HexBilliards x = Table.shutWithBall(0, 0);
        x.put(Table.at(2, 0), 1);
        Check.due("none at first", x.ball(0, 2), 0);
        // 1.6 -> step 1.44 -> hit 1.008 -> step of the other one
        x.shoot(0, 0, 0, 16, 0);
        Check.due("before its hit", x.ball(0, 2), 1);
        Check.due("of the one that was hit", x.ball(1, 2), 1);
        x.move(0, 0);
        Check.due("by hand it makes none", x.ball(0, 2), 1);
        x.shoot(1, 0, 0, 10, 0);
        Check.due("it goes on counting", x.ball(0, 2), 2);
        x.undo();
        Check.due("undo() takes it back", x.ball(0, 2), 1);
    }

    @Sentence(of = "Promise 17", says = "3 for its banks so far")
    static void banksOfBalls() {
        HexBilliards x = Table.shutWithBall(4, -2);
        x.put(Table.at(3, -2), 1);
        Check.due("none at first", x.ball(0, 3), 0);
        x.shoot(0, 0, 0, 10, 0);
        Check.due("a bank that ends the shot", x.ball(0, 3), 1);
        // 1.8 -> hit 1.26 -> bank 1.008 -> a step
        x.shoot(1, 1, 0, 18, 0);
        Check.due("the bank behind a hit is of the one that was hit", x.ball(0, 3), 2);
        Check.due("not of the one that hit", x.ball(1, 3), 0);
    }

    @Sentence(of = "Promise 17", says = "4 for the hits that it gave so far")
    static void hitsOfBalls() {
        HexBilliards x = Table.shutWithBall(0, 0);
        x.put(31, 1);
        x.put(32, 1);
        Check.due("none at first", x.ball(0, 4), 0);
        x.shoot(0, 0, 0, 10, 0);
        Check.due("a hit that ends the shot", x.ball(0, 4), 1);
        Check.due("the one that was hit gave none", x.ball(1, 4), 0);
        x.shoot(1, 0, 0, 20, 0);
        Check.due("one more", x.ball(0, 4), 2);
        Check.due("the second one hits the third", x.ball(1, 4), 1);
        Check.due("the third one hits none", x.ball(2, 4), 0);
    }

    @Sentence(of = "Promise 17", says = "UNKNOWN")
    static void tellOfNoBall() {
        HexBilliards x = Table.withAllBalls();
        for (int what = 0; what <= 4; what++) {
            int told = what;
            Table.refused("ball", 0, 11, HexBilliards.UNKNOWN, ball -> x.ball(ball, told));
        }
        x.takeOff(11);
        Check.due("a gone ball's cell", x.ball(11, 0), HexBilliards.UNKNOWN);
        Check.due("a gone ball's value", x.ball(11, 1), HexBilliards.UNKNOWN);
        Check.due("an empty felt", new HexBilliards().ball(0, 0), HexBilliards.UNKNOWN);
        Check.due("NONE as a ball", x.ball(HexBilliards.NONE, 0), HexBilliards.UNKNOWN);
    }

    @Sentence(of = "Promise 17", says = "BAD_VALUE")
    static void noSuchWhatOfABall() {
        HexBilliards x = Table.withAllBalls();
        Table.refused("what of ball 0", 0, 4, HexBilliards.BAD_VALUE, what -> x.ball(0, what));
        Table.refused("what of ball 11", 0, 4, HexBilliards.BAD_VALUE, what -> x.ball(11, what));
    }

    @Sentence(of = "Promise 17", says = "Returns the number; UNKNOWN; BAD_VALUE.")
    static void theBallIsCheckedBeforeWhat() {
        HexBilliards x = Table.withBall(0, 0);
        for (int ball : Table.outside(0, 0)) {
            Table.refused("what of ball " + ball, 0, 4, HexBilliards.UNKNOWN, what -> x.ball(ball, what));
        }
    }

    // ---- would

    @Sentence(of = "Promise 18", says = "Tells what a shot would do, whoever's turn it is.")
    static void wouldAtEachTurn() {
        HexBilliards x = Table.withBall(0, 0);
        x.put(31, 9);
        List<Integer> before = Look.atState(x);
        for (int direction = 0; direction < 6; direction++) {
            for (int what = 0; what <= 5; what++) {
                x.would(0, direction, 999, 2, what);
            }
        }
        Check.holds("it does nothing", Look.atState(x).equals(before));
        Check.due("nor records it", x.count(14), 2);
        Check.due("at the turn of 0", x.would(0, 1, 14, 0, 3), 0);
        x.pass(0);
        Check.due("at the turn of 1", x.would(0, 1, 14, 0, 3), 0);
    }

    @Sentence(of = "Promise 18", says = "`ball`: a ball on the felt")
    static void wouldOfTheFirstAndTheLastBall() {
        HexBilliards x = Table.withAllBalls();
        x.move(0, 60);
        Check.due("ball 0", x.would(0, 2, 10, 0, 4), Table.at(0, 3));
        Check.due("ball 11", x.would(11, 5, 10, 0, 4), Table.at(-2, -1));
        x.takeOff(11);
        Check.due("a gone ball", x.would(11, 5, 10, 0, 4), HexBilliards.UNKNOWN);
    }

    @Sentence(of = "Promise 18", says = "`direction`: 0 to 5")
    static void wouldInDirectionsZeroToFive() {
        HexBilliards x = Table.withBall(0, 0);
        for (int d = 0; d < 6; d++) {
            Check.due("direction " + d, x.would(0, d, 10, 0, 4), Table.besideMiddle(d));
        }
        Check.due("direction -1", x.would(0, -1, 10, 0, 4), HexBilliards.BAD_VALUE);
        Check.due("direction 6", x.would(0, 6, 10, 0, 4), HexBilliards.BAD_VALUE);
    }

    @Sentence(of = "Promise 18", says = "`strength`: 10 to 999")
    static void wouldWithStrengthsTenTo999() {
        HexBilliards x = Table.withBall(0, 0);
        Check.due("strength 10", x.would(0, 0, 10, 0, 0), 1);
        Check.due("strength 999", x.would(0, 0, 999, 0, 0), 4);
        Check.due("strength 9", x.would(0, 0, 9, 0, 0), HexBilliards.BAD_VALUE);
        Check.due("strength 1000", x.would(0, 0, 1000, 0, 0), HexBilliards.BAD_VALUE);
    }

    @Sentence(of = "Promise 18", says = "`spin`: 0 to 2")
    static void wouldWithSpinsZeroToTwo() {
        HexBilliards x = Table.withBall(0, 0);
        Check.due("spin 0", x.would(0, 0, 10, 0, 0), 1);
        Check.due("spin 2", x.would(0, 0, 10, 2, 0), 1);
        Check.due("spin -1", x.would(0, 0, 10, -1, 0), HexBilliards.BAD_VALUE);
        Check.due("spin 3", x.would(0, 0, 10, 3, 0), HexBilliards.BAD_VALUE);
    }

    /** Ball 0 hits ball 1 in corner 0, which banks and hits ball 0 back, 7 steps, into corner 3. */
    private static HexBilliards hitBack() {
        HexBilliards x = Table.withBall(3, 0);
        x.put(Table.at(4, 0), 9);
        return x;
    }

    @Sentence(of = "Promise 18", says = "0 for all steps")
    static void allSteps() {
        HexBilliards x = Table.shutWithBall(0, 0);
        x.put(Table.at(2, 0), 1);
        Check.due("of two balls", x.would(0, 0, 16, 0, 0), 2);
        x.shoot(0, 0, 0, 16, 0);
        Check.due("not those made before", x.would(0, 3, 10, 0, 0), 1);
        Check.due("none, but a bank", Table.withBall(4, -2).would(0, 0, 10, 0, 0), 0);
        Check.due("none, but a hit", hitBack().would(0, 0, 10, 0, 0), 0);
        Check.due("to the pot", hitBack().would(0, 0, 500, 0, 0), 7);
    }

    @Sentence(of = "Promise 18", says = "1 for all banks")
    static void allBanks() {
        HexBilliards x = Table.withBall(4, -2);
        Check.due("none", x.would(0, 3, 10, 0, 1), 0);
        Check.due("one", x.would(0, 0, 10, 0, 1), 1);
        x.shoot(0, 0, 0, 10, 0);
        Check.due("not those made before", x.would(0, 0, 10, 0, 1), 1);
        Check.due("one of the ball that was hit", hitBack().would(0, 0, 500, 0, 1), 1);
    }

    @Sentence(of = "Promise 18", says = "2 for all hits")
    static void allHits() {
        HexBilliards x = hitBack();
        Check.due("none", x.would(0, 3, 10, 0, 2), 0);
        Check.due("one, which ends the shot", x.would(0, 0, 10, 0, 2), 1);
        Check.due("of two balls", x.would(0, 0, 500, 0, 2), 2);
        x.shoot(0, 0, 0, 10, 0);
        Check.due("not those given before", x.would(0, 0, 10, 0, 2), 1);
    }

    @Sentence(of = "Promise 18", says = "3 for the ball that would be gone (NONE without one)")
    static void theBallThatWouldBeGone() {
        HexBilliards x = Table.withBall(2, 0);
        x.put(Table.at(3, 0), 9);
        Check.due("none", x.would(0, 0, 10, 0, 3), HexBilliards.NONE);
        Check.due("the one that is hit", x.would(0, 0, 20, 0, 3), 1);
        Check.due("the one that is shot", x.would(0, 3, 999, 0, 3), 0);
        HexBilliards all = Table.withAllBalls();
        all.setPots(1);
        all.move(11, Table.at(3, 0));
        Check.due("the highest ball", all.would(11, 0, 10, 0, 3), 11);
        all.setPots(62);
        Check.due("its pot is shut", all.would(11, 0, 10, 0, 3), HexBilliards.NONE);
    }

    @Sentence(of = "Promise 18", says = "4 for the cell of the ball that was shot then (NONE if it would be gone)")
    static void theCellOfTheBallThatWasShot() {
        HexBilliards x = hitBack();
        Check.due("it hits and stays", x.would(0, 0, 10, 0, 4), Table.at(3, 0));
        // 2.0 -> hit 1.4 -> bank 1.12 -> hit 0.784
        Check.due("it is hit back without a step", x.would(0, 0, 20, 0, 4), Table.at(3, 0));
        // 3.0 -> 2.1 -> 1.68 -> 1.176 -> two steps
        Check.due("it is hit back", x.would(0, 0, 30, 0, 4), Table.at(1, 0));
        Check.due("it is hit back into a pot", x.would(0, 0, 500, 0, 4), HexBilliards.NONE);
        Check.due("it goes into a pot itself", x.would(0, 3, 999, 0, 4), HexBilliards.NONE);
        HexBilliards y = Table.withBall(2, 0);
        y.put(Table.at(3, 0), 9);
        Check.due("another one goes into a pot", y.would(0, 0, 20, 0, 4), Table.at(2, 0));
        Check.due("cell 0, the pot being shut", Table.shutWithBall(0, -3).would(0, 2, 10, 0, 4), 0);
    }

    @Sentence(of = "Promise 18",
        says = "5 for the ball that would move last (one that is hit moves by that, also if it makes no step)")
    static void theBallThatWouldMoveLast() {
        HexBilliards x = hitBack();
        Check.due("the one that is shot, by a step", x.would(0, 3, 10, 0, 5), 0);
        Check.due("the one that is hit, without a step", x.would(0, 0, 10, 0, 5), 1);
        Check.due("the one that is hit back, without a step", x.would(0, 0, 20, 0, 5), 0);
        Check.due("the one that is gone", x.would(0, 0, 500, 0, 5), 0);
        Check.due("the one that is shot, by a bank alone", x.would(1, 0, 10, 0, 5), 1);
    }

    @Sentence(of = "Promise 18", says = "UNKNOWN")
    static void wouldOfNoBall() {
        HexBilliards x = Table.withAllBalls();
        Table.refused("ball", 0, 11, HexBilliards.UNKNOWN, ball -> x.would(ball, 0, 10, 0, 0));
        x.takeOff(0);
        Check.due("a gone ball", x.would(0, 0, 10, 0, 0), HexBilliards.UNKNOWN);
        Check.due("an empty felt", new HexBilliards().would(0, 0, 10, 0, 5), HexBilliards.UNKNOWN);
    }

    @Sentence(of = "Promise 18", says = "BAD_VALUE")
    static void wouldWithABadValue() {
        HexBilliards x = Table.withBall(0, 0);
        Table.refused("direction", 0, 5, HexBilliards.BAD_VALUE, direction -> x.would(0, direction, 10, 0, 0));
        Table.refused("strength", 10, 999, HexBilliards.BAD_VALUE, strength -> x.would(0, 0, strength, 0, 0));
        Table.refused("spin", 0, 2, HexBilliards.BAD_VALUE, spin -> x.would(0, 0, 10, spin, 0));
        Table.refused("what", 0, 5, HexBilliards.BAD_VALUE, what -> x.would(0, 0, 10, 0, what));
    }

    @Sentence(of = "Promise 18", says = "Returns the number; UNKNOWN; BAD_VALUE.")
    static void wouldChecksTheBallFirst() {
        HexBilliards x = Table.withBall(0, 0);
        Check.due("ball, direction", x.would(1, 6, 10, 0, 0), HexBilliards.UNKNOWN);
        Check.due("ball, strength", x.would(1, 0, 9, 0, 0), HexBilliards.UNKNOWN);
        Check.due("ball, spin", x.would(1, 0, 10, 3, 0), HexBilliards.UNKNOWN);
        Check.due("ball, what", x.would(1, 0, 10, 0, 6), HexBilliards.UNKNOWN);
    }

    // ---- speedLeft

    @Sentence(of = "Promise 19", says = "`ball`: a ball on the felt")
    static void speedOfTheFirstAndTheLastBall() {
        HexBilliards x = Table.withAllBalls();
        x.move(0, 60);
        Check.due("ball 0", x.speedLeft(0, 2, 10, 0), 0.9f);
        Check.due("ball 11", x.speedLeft(11, 5, 10, 0), 0.9f);
        Check.due("ball -1", x.speedLeft(-1, 2, 10, 0), -1.0f);
        Check.due("ball 12", x.speedLeft(12, 2, 10, 0), -1.0f);
    }

    @Sentence(of = "Promise 19", says = "`direction`: 0 to 5")
    static void speedInDirectionsZeroToFive() {
        HexBilliards x = Table.withBall(4, -2);
        float[] left = {0.8f, 0.8f, 0.9f, 0.9f, 0.9f, 0.9f};
        for (int d = 0; d < 6; d++) {
            Check.due("direction " + d, x.speedLeft(0, d, 10, 0), left[d]);
        }
        Check.due("direction -1", x.speedLeft(0, -1, 10, 0), -1.0f);
        Check.due("direction 6", x.speedLeft(0, 6, 10, 0), -1.0f);
    }

    @Sentence(of = "Promise 19", says = "`strength`: 10 to 999")
    static void speedWithStrengthsTenTo999() {
        HexBilliards x = Table.withBall(3, 0);
        Check.due("strength 10", x.speedLeft(0, 0, 10, 0), 0.9f);
        Check.due("strength 999", x.speedLeft(0, 0, 999, 0), 99.9f * 0.9f);
        Check.due("strength 9", x.speedLeft(0, 0, 9, 0), -1.0f);
        Check.due("strength 1000", x.speedLeft(0, 0, 1000, 0), -1.0f);
    }

    /** Into corner 0 and back to corner 3, where spin 2 turns it aside; what is left tells which way. */
    @Sentence(of = "Promise 19", says = "`spin`: 0 to 2")
    static void speedWithSpinsZeroToTwo() {
        HexBilliards x = Table.shutWithBall(4, 0);
        x.put(Table.at(-3, -1), 1);
        x.set(0, 99);
        x.set(1, 100);
        float steps = 1.1f;
        for (int i = 0; i < 8; i++) {
            steps = steps * (99.0f / 100.0f);
        }
        float aside = steps * (70.0f / 100.0f);
        float back = steps * (99.0f / 100.0f) * (99.0f / 100.0f);
        Check.due("spin 0", x.speedLeft(0, 0, 11, 0), back);
        Check.due("spin 1", x.speedLeft(0, 0, 11, 1), back);
        Check.due("spin 2", x.speedLeft(0, 0, 11, 2), aside);
        Check.due("spin -1", x.speedLeft(0, 0, 11, -1), -1.0f);
        Check.due("spin 3", x.speedLeft(0, 0, 11, 3), -1.0f);
    }

    @Sentence(of = "Promise 19", says = "Returns the speed that would be left at the end of the shot")
    static void theSpeedLeft() {
        HexBilliards x = Table.withBall(0, 0);
        float kept = 90.0f / 100.0f;
        Check.due("just below 1.0", x.speedLeft(0, 0, 11, 0), 1.1f * kept);
        Check.due("far above it, in a pot", x.speedLeft(0, 0, 999, 0), 99.9f * kept * kept * kept * kept);
        x.set(0, 50);
        Check.due("the least", x.speedLeft(0, 0, 10, 0), 0.5f);
        Check.due("behind 1.0", x.speedLeft(0, 0, 20, 0), 0.5f);
        x.pass(0);
        Check.due("at the turn of 1", x.speedLeft(0, 0, 10, 0), 0.5f);
        Check.due("nothing is done", x.ball(0, 0), 30);
        Check.due("nor counted", x.ball(0, 2), 0);
    }

    @Sentence(of = "Promise 19", says = "-1.0f if there is no such ball, or another argument is out of range.")
    static void noSpeedLeft() {
        HexBilliards x = Table.withBall(0, 0);
        for (int ball : Table.outside(0, 0)) {
            Check.due("ball " + ball, x.speedLeft(ball, 0, 10, 0), -1.0f);
        }
        for (int direction : Table.outside(0, 5)) {
            Check.due("direction " + direction, x.speedLeft(0, direction, 10, 0), -1.0f);
        }
        for (int strength : Table.outside(10, 999)) {
            Check.due("strength " + strength, x.speedLeft(0, 0, strength, 0), -1.0f);
        }
        for (int spin : Table.outside(0, 2)) {
            Check.due("spin " + spin, x.speedLeft(0, 0, 10, spin), -1.0f);
        }
        x.takeOff(0);
        Check.due("a gone ball", x.speedLeft(0, 0, 10, 0), -1.0f);
        Check.due("an empty felt", new HexBilliards().speedLeft(0, 0, 10, 0), -1.0f);
    }

    // ---- along

    @Sentence(of = "Promise 20", says = "Tells the cell that a ball alone on the felt, with all pots shut and no spin, would be on behind some steps.")
    static void aloneWithPotsShut() {
        HexBilliards x = Table.withAllBalls();
        Check.due("past other balls", x.along(0, 5, 3, false), Table.at(0, -1));
        Check.due("past an open pot", x.along(30, 0, 5, false), Table.at(3, 0));
        Check.due("however many banks", x.along(30, 0, 98, false), Table.at(2, 0));
        Check.due("from a cell without a ball", x.along(60, 2, 1, false), Table.at(0, 3));
        Check.due("nothing is done", x.count(0), 12);
    }

    @Sentence(of = "Promise 20", says = "`cell`: 0 to 60, from where it begins")
    static void alongFromZeroToSixty() {
        HexBilliards x = new HexBilliards();
        Check.due("cell 0", x.along(0, 0, 1, false), 1);
        Check.due("cell 60", x.along(60, 3, 1, false), 59);
        Check.due("cell -1", x.along(-1, 0, 1, false), HexBilliards.UNKNOWN);
        Check.due("cell 61", x.along(61, 0, 1, false), HexBilliards.UNKNOWN);
    }

    @Sentence(of = "Promise 20", says = "`direction`: 0 to 5")
    static void alongZeroToFive() {
        HexBilliards x = new HexBilliards();
        for (int d = 0; d < 6; d++) {
            Check.due("direction " + d, x.along(30, d, 1, false), Table.besideMiddle(d));
        }
        Check.due("direction -1", x.along(30, -1, 1, false), HexBilliards.BAD_VALUE);
        Check.due("direction 6", x.along(30, 6, 1, false), HexBilliards.BAD_VALUE);
    }

    /** From the middle to a corner and back, the ball is in the middle each 8 steps. */
    @Sentence(of = "Promise 20", says = "`steps`: 0 to 99")
    static void zeroToNinetyNineSteps() {
        HexBilliards x = new HexBilliards();
        Check.due("0 steps", x.along(30, 0, 0, false), 30);
        Check.due("0 steps before a wall", x.along(34, 0, 0, false), 34);
        Check.due("1 step at a corner", x.along(34, 0, 1, false), 33);
        Check.due("96 steps", x.along(30, 0, 96, false), 30);
        Check.due("99 steps", x.along(30, 0, 99, false), 33);
        Check.due("-1 steps", x.along(30, 0, -1, false), HexBilliards.BAD_VALUE);
        Check.due("100 steps", x.along(30, 0, 100, false), HexBilliards.BAD_VALUE);
    }

    @Sentence(of = "Promise 20", says = "`back`: whether the direction is turned to the opposite one then, and as many steps are made once more")
    static void thereAndBack() {
        HexBilliards x = new HexBilliards();
        for (int d = 0; d < 6; d++) {
            Check.due("0 steps", x.along(30, d, 0, true), 30);
            Check.due("1 step", x.along(30, d, 1, true), 30);
            Check.due("4 steps, to the corner", x.along(30, d, 4, true), 30);
            Check.due("5 steps, behind the bank", x.along(30, d, 5, true), 30);
            Check.due("99 steps", x.along(30, d, 99, true), 30);
        }
        Check.due("at a wall, turned before it banks", x.along(Table.at(3, -2), 0, 1, true), Table.at(3, -2));
        Check.due("behind a bank at a wall", x.along(Table.at(3, -2), 0, 2, true), Table.at(3, -2));
        Check.due("at a corner, turned before it banks", x.along(Table.at(3, 1), 1, 1, true), Table.at(3, 1));
        // To (4, 0), where q alone is out, and to (3, 0); back to (4, 0), where two are, and to (3, 0).
        Check.due("a way that does not go home", x.along(Table.at(3, 1), 1, 2, true), Table.at(3, 0));
    }

    @Sentence(of = "Promise 20", says = "Returns the cell")
    static void alongReturnsZeroToSixty() {
        HexBilliards x = new HexBilliards();
        Check.due("to the first cell", x.along(30, 2, 4, false), 0);
        Check.due("to the last cell", x.along(30, 5, 4, false), 60);
    }

    @Sentence(of = "Promise 20", says = "UNKNOWN")
    static void alongFromNoCell() {
        HexBilliards x = Table.withAllBalls();
        Table.refused("cell", 0, 60, HexBilliards.UNKNOWN, cell -> x.along(cell, 0, 1, false));
        Table.refused("cell, no step", 0, 60, HexBilliards.UNKNOWN, cell -> x.along(cell, 0, 0, true));
    }

    @Sentence(of = "Promise 20", says = "BAD_VALUE")
    static void alongWithABadValue() {
        HexBilliards x = new HexBilliards();
        Table.refused("direction", 0, 5, HexBilliards.BAD_VALUE, direction -> x.along(30, direction, 1, false));
        Table.refused("direction, no step", 0, 5, HexBilliards.BAD_VALUE, direction -> x.along(30, direction, 0, true));
        Table.refused("steps", 0, 99, HexBilliards.BAD_VALUE, steps -> x.along(30, 0, steps, false));
        Table.refused("steps and back", 0, 99, HexBilliards.BAD_VALUE, steps -> x.along(30, 0, steps, true));
    }

    @Sentence(of = "Promise 20", says = "Returns the cell; UNKNOWN; BAD_VALUE.")
    static void alongChecksTheCellFirst() {
        HexBilliards x = new HexBilliards();
        Check.due("cell, direction", x.along(61, 6, 1, false), HexBilliards.UNKNOWN);
        Check.due("cell, steps", x.along(-1, 0, 100, true), HexBilliards.UNKNOWN);
    }

    // ---- best

    @Sentence(of = "Promise 21", says = "by which the most is won, of several that of the lowest ball, of these in the lowest direction.")
    static void theMostThenTheLowest() {
        HexBilliards x = new HexBilliards();
        x.put(Table.at(0, 3), 19);
        x.put(Table.at(-3, 3), 20);
        x.put(Table.at(3, -3), 20);
        x.put(Table.at(-3, 0), 1);
        Check.due("the most", x.best(10, 0, 2), 20);
        Check.due("the lower ball of two", x.best(10, 0, 0), 1);
        Check.due("not the lower direction of all", x.best(10, 0, 1), 4);
        HexBilliards y = Table.withBall(0, 0);
        Check.due("the lowest direction of six", y.best(14, 0, 1), 0);
        y.setPots(48);
        Check.due("the lower direction of two", y.best(14, 0, 1), 4);
        HexBilliards hit = Table.withBall(2, 0);
        hit.put(Table.at(3, 0), 20);
        Check.due("the lower ball, by a hit", hit.best(20, 0, 0), 0);
        Check.due("what the one that is hit is worth", hit.best(20, 0, 2), 20);
    }

    @Sentence(of = "Promise 21", says = "`strength`: 10 to 999")
    static void bestWithStrengthsTenTo999() {
        HexBilliards x = Table.withBall(3, 0);
        Check.due("strength 10", x.best(10, 0, 2), 7);
        Check.due("strength 999", x.best(999, 0, 2), 7);
        Check.due("strength 9", x.best(9, 0, 2), HexBilliards.BAD_VALUE);
        Check.due("strength 1000", x.best(1000, 0, 2), HexBilliards.BAD_VALUE);
    }

    /** From corner 0 into it, spin 2 turns it aside at corner 3, along the wall to corner 2. */
    @Sentence(of = "Promise 21", says = "`spin`: 0 to 2")
    static void bestWithSpinsZeroToTwo() {
        HexBilliards x = Table.shutWithBall(4, 0);
        x.set(0, 98);
        x.set(1, 100);
        x.setPots(4);
        Check.due("spin 0, along two walls", x.best(13, 0, 1), 4);
        Check.due("spin 1", x.best(13, 1, 1), 4);
        Check.due("spin 2", x.best(13, 2, 1), 0);
        Check.due("spin -1", x.best(13, -1, 1), HexBilliards.BAD_VALUE);
        Check.due("spin 3", x.best(13, 3, 1), HexBilliards.BAD_VALUE);
    }

    @Sentence(of = "Promise 21", says = "0 for the ball")
    static void theBestBall() {
        HexBilliards x = Table.withBall(3, 0);
        Check.due("ball 0", x.best(10, 0, 0), 0);
        HexBilliards y = new HexBilliards();
        int[] farFromPots = {28, 29, 30, 31, 32, 37, 38, 39, 40, 41, 22};
        for (int cell : farFromPots) {
            y.put(cell, 1);
        }
        y.put(Table.at(0, 3), 20);
        Check.due("ball 11", y.best(10, 0, 0), 11);
    }

    @Sentence(of = "Promise 21", says = "1 for the direction")
    static void theBestDirection() {
        for (int d = 0; d < 6; d++) {
            HexBilliards x = Table.withBall(3 * Table.STEP_Q[d], 3 * Table.STEP_R[d]);
            Check.due("direction", x.best(10, 0, 1), d);
        }
    }

    @Sentence(of = "Promise 21", says = "2 for what is won")
    static void whatIsWon() {
        for (int value = 1; value <= 20; value++) {
            HexBilliards x = new HexBilliards();
            x.put(Table.at(3, 0), value);
            Check.due("won", x.best(10, 0, 2), value);
            Check.due("nobody got it", x.count(3) + x.count(4), 0);
        }
    }

    @Sentence(of = "Promise 21", says = "BAD_VALUE")
    static void bestWithABadValue() {
        HexBilliards x = Table.withBall(3, 0);
        Table.refused("strength", 10, 999, HexBilliards.BAD_VALUE, strength -> x.best(strength, 0, 0));
        Table.refused("spin", 0, 2, HexBilliards.BAD_VALUE, spin -> x.best(10, spin, 0));
        Table.refused("what", 0, 2, HexBilliards.BAD_VALUE, what -> x.best(10, 0, what));
    }

    @Sentence(of = "Promise 21", says = "NONE if nothing can be won by any.")
    static void nothingCanBeWon() {
        HexBilliards x = new HexBilliards();
        for (int what = 0; what <= 2; what++) {
            Check.due("no ball", x.best(999, 0, what), HexBilliards.NONE);
        }
        x.put(30, 20);
        for (int what = 0; what <= 2; what++) {
            Check.due("too far", x.best(13, 0, what), HexBilliards.NONE);
        }
        Check.due("just not too far", x.best(14, 0, 2), 20);
        x.setPots(0);
        for (int what = 0; what <= 2; what++) {
            Check.due("all pots shut", x.best(999, 0, what), HexBilliards.NONE);
        }
        x.setPots(63);
        x.takeOff(0);
        Check.due("the ball is gone", x.best(999, 0, 2), HexBilliards.NONE);
    }

    @Sentence(of = "Promise 21", says = "Returns the number; BAD_VALUE; NONE if nothing can be won by any.")
    static void bestChecksTheArgumentsFirst() {
        HexBilliards x = new HexBilliards();
        Check.due("strength, no ball", x.best(1000, 0, 0), HexBilliards.BAD_VALUE);
        Check.due("spin, no ball", x.best(10, 3, 1), HexBilliards.BAD_VALUE);
        Check.due("what, no ball", x.best(10, 0, 3), HexBilliards.BAD_VALUE);
    }

    // ---- count

    @Sentence(of = "Promise 22", says = "0 for the balls on the felt")
    static void ballsOnTheFelt() {
        HexBilliards x = new HexBilliards();
        Check.due("none", x.count(0), 0);
        for (int i = 0; i < 12; i++) {
            x.put(i, 1);
            Check.due("behind put", x.count(0), i + 1);
        }
        x.takeOff(0);
        Check.due("behind takeOff", x.count(0), 11);
        HexBilliards y = Table.withBall(3, 0);
        y.shoot(0, 0, 0, 10, 0);
        Check.due("gone by a shot", y.count(0), 0);
    }

    @Sentence(of = "Promise 22", says = "1 for balls so far")
    static void ballsSoFar() {
        HexBilliards x = Table.withAllBalls();
        Check.due("all", x.count(1), 12);
        x.takeOff(3);
        Check.due("gone ones too", x.count(1), 12);
        x.put(60, 1);
        Check.due("not those refused", x.count(1), 12);
        Check.due("none", new HexBilliards().count(1), 0);
    }

    @Sentence(of = "Promise 22", says = "2 for the player whose turn it is")
    static void whoseTurnItIs() {
        HexBilliards x = Table.withBall(0, 0);
        Check.due("0 at first", x.count(2), 0);
        x.pass(0);
        Check.due("1", x.count(2), 1);
        x.shoot(1, 0, 0, 10, 0);
        Check.due("0 again", x.count(2), 0);
    }

    @Sentence(of = "Promise 22", says = "3 and 4 for the scores of the players 0 and 1")
    static void scoresOfBoth() {
        HexBilliards x = new HexBilliards();
        Check.due("0 at first", x.count(3), 0);
        Check.due("1 at first", x.count(4), 0);
        for (int i = 0; i < 11; i++) {
            x.put(Table.at(3, 0), 20);
            x.shoot(0, i, 0, 10, 0);
        }
        Check.due("11 balls of 20", x.count(3), 220);
        x.pass(0);
        x.put(Table.at(3, 0), 19);
        x.shoot(1, 11, 0, 10, 0);
        Check.due("0 keeps them", x.count(3), 220);
        Check.due("1 gets the last one", x.count(4), 19);
    }

    @Sentence(of = "Promise 22", says = "5 for the run of the player whose turn it is")
    static void theRunOfWhoseTurnItIs() {
        HexBilliards x = new HexBilliards();
        Check.due("at first", x.count(5), 0);
        for (int i = 0; i < 12; i++) {
            x.put(Table.at(3, 0), 1);
            x.shoot(0, i, 0, 10, 0);
            Check.due("a run", x.count(5), i + 1);
        }
        x.pass(0);
        Check.due("of the other one", x.count(5), 0);
    }

    @Sentence(of = "Promise 22", says = "6 for shots so far")
    static void shotsSoFar() {
        HexBilliards x = Table.shutWithBall(0, 0);
        Check.due("none", x.count(6), 0);
        x.shoot(1, 0, 0, 10, 0);
        Check.due("an error is none", x.count(6), 0);
        x.pass(0);
        x.would(0, 0, 10, 0, 0);
        Check.due("nor is a pass", x.count(6), 0);
        for (int i = 1; i <= 100; i++) {
            x.shoot(i % 2, 0, 0, 10, 0);
            Check.due("of both players", x.count(6), i);
        }
        x.undo();
        Check.due("undo() takes it back", x.count(6), 99);
    }

    @Sentence(of = "Promise 22", says = "7 for balls gone by shots so far")
    static void goneByShotsSoFar() {
        HexBilliards x = new HexBilliards();
        Check.due("none", x.count(7), 0);
        for (int i = 0; i < 11; i++) {
            x.put(Table.at(3, 0), 1);
            x.shoot(i % 2, i, 0, 10, 0);
            x.pass(i % 2);
            Check.due("of both players", x.count(7), i + 1);
        }
        x.put(30, 1);
        x.takeOff(11);
        Check.due("not those taken off", x.count(7), 11);
        x.undo();
        x.shoot(1, 11, 0, 14, 0);
        Check.due("all 12", x.count(7), 12);
    }

    @Sentence(of = "Promise 22", says = "8 for banks so far")
    static void banksSoFar() {
        HexBilliards x = Table.withBall(4, -2);
        x.put(Table.at(-4, 2), 1);
        Check.due("none", x.count(8), 0);
        x.shoot(0, 0, 0, 10, 0);
        x.shoot(1, 1, 3, 10, 0);
        Check.due("of both balls", x.count(8), 2);
        x.would(0, 0, 500, 0, 0);
        x.best(500, 0, 0);
        x.along(30, 0, 99, true);
        Check.due("not those that would be", x.count(8), 2);
        x.takeOff(0);
        Check.due("of a gone ball too", x.count(8), 2);
        x.undo();
        x.undo();
        Check.due("undo() takes it back", x.count(8), 1);
    }

    @Sentence(of = "Promise 22", says = "9 for hits so far")
    static void hitsSoFar() {
        HexBilliards x = Table.withBall(0, 0);
        x.put(31, 1);
        Check.due("none", x.count(9), 0);
        x.shoot(0, 0, 0, 10, 0);
        x.shoot(1, 1, 3, 10, 0);
        Check.due("of both balls", x.count(9), 2);
        x.would(0, 0, 500, 0, 0);
        x.best(500, 0, 0);
        Check.due("not those that would be", x.count(9), 2);
        x.takeOff(0);
        Check.due("of a gone ball too", x.count(9), 2);
        x.undo();
        x.undo();
        Check.due("undo() takes it back", x.count(9), 1);
    }

    @Sentence(of = "Promise 22", says = "10 for the pots that are open (a set)")
    static void potsThatAreOpen() {
        HexBilliards x = new HexBilliards();
        Check.due("all", x.count(10), 63);
        x.setPots(0);
        Check.due("none", x.count(10), 0);
        for (int corner = 0; corner < 6; corner++) {
            x.setPots(1 << corner);
            Check.due("one", x.count(10), 1 << corner);
        }
    }

    @Sentence(of = "Promise 22", says = "11 to 13 for the settings 0 to 2")
    static void settingsZeroToTwo() {
        HexBilliards x = new HexBilliards();
        Check.due("setting 0", x.count(11), 90);
        Check.due("setting 1", x.count(12), 80);
        Check.due("setting 2", x.count(13), 70);
        x.set(0, 99);
        x.set(1, 100);
        x.set(2, 50);
        Check.due("setting 0 at 99", x.count(11), 99);
        Check.due("setting 1 at 100", x.count(12), 100);
        Check.due("setting 2 at 50", x.count(13), 50);
    }

    @Sentence(of = "Promise 22", says = "14 for the states in the history")
    static void statesInTheHistory() {
        HexBilliards x = new HexBilliards();
        int[] states = {0, 1, 2, 3, 4, 4};
        for (int i = 0; i < states.length; i++) {
            Check.due("behind " + i + " acts", x.count(14), states[i]);
            x.put(i, 1);
        }
        x.undo();
        Check.due("behind undo()", x.count(14), 3);
    }

    @Sentence(of = "Promise 22", says = "15 for the length of the text")
    static void lengthOfTheText() {
        HexBilliards x = new HexBilliards();
        for (int length = 0; length <= 60; length++) {
            Check.due("length", x.count(15), length);
            x.type('1');
        }
        Check.due("a full text", x.count(15), 60);
        x.clearText();
        Check.due("cleared", x.count(15), 0);
    }

    @Sentence(of = "Promise 22", says = "BAD_VALUE")
    static void noSuchCount() {
        HexBilliards x = new HexBilliards();
        Table.refused("what", 0, 15, HexBilliards.BAD_VALUE, x::count);
        Check.due("the last one", x.count(15), 0);
    }
}
