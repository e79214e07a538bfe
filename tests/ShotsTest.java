/** Promises 8 and 9, and the terms of a shot: steps, banks, spin, hits, pots, turns and runs. */
public final class ShotsTest {
    public static void main(String[] args) {
        speedEndsAShot();
        banksTurnAsAMirror();
        cornersSendBack();
        oneBankTurnsNoFurther();
        secondBankWithSpinTwo();
        thirdBankWithSpinOne();
        spinOnEveryWay();
        hitsHandTheSpeedOn();
        hitInACorner();
        hitTakesTheSpinAway();
        turnsAndRuns();
        shootErrors();
        pass();
        longestShot();
        Check.end("ShotsTest");
    }

    private static HexBilliards withBall(int q, int r) {
        HexBilliards x = new HexBilliards();
        x.put(x.cell(q, r), 7);
        x.setPots(0);
        return x;
    }

    /** A ball moves as long as its speed is at least 1: 1.0 does one step, 1.2 two, 0.9 none. */
    private static void speedEndsAShot() {
        HexBilliards x = withBall(0, 0);
        Check.due("8: strength 10", x.would(0, 0, 10, 0, 0), 1);
        Check.due("8: strength 11", x.would(0, 0, 11, 0, 0), 1);
        Check.due("8: strength 12", x.would(0, 0, 12, 0, 0), 2);
        Check.due("8: strength 13", x.would(0, 0, 13, 0, 0), 3);
        Check.due("8: shoot", x.shoot(0, 0, 1, 12, 0), 0);
        Check.due("8: is where it stopped", x.ball(0, 0), x.cell(2, -2));
        Check.due("8: left its cell", x.ofCell(30, 2), HexBilliards.NONE);
        Check.due("8: is on the other", x.ofCell(x.cell(2, -2), 2), 0);
        Check.due("8: its steps", x.ball(0, 2), 2);
        Check.due("8: shots so far", x.count(6), 1);
    }

    private static void mirrored(int q, int r, int direction, int toQ, int toR) {
        HexBilliards x = withBall(q, r);
        x.set(1, 100);
        String shot = "8: from (" + q + ", " + r + ") in direction " + direction;
        Check.due(shot + ", steps", x.would(0, direction, 10, 0, 0), 1);
        Check.due(shot + ", banks", x.would(0, direction, 10, 0, 1), 1);
        Check.due(shot + ", cell", x.would(0, direction, 10, 0, 4), x.cell(toQ, toR));
    }

    private static void banksTurnAsAMirror() {
        mirrored(4, -2, 0, 3, -1);
        mirrored(4, -2, 1, 3, -2);
        mirrored(-4, 2, 3, -3, 1);
        mirrored(-4, 2, 4, -3, 2);
        mirrored(2, -4, 1, 2, -3);
        mirrored(2, -4, 2, 1, -3);
        mirrored(-2, 4, 4, -2, 3);
        mirrored(-2, 4, 5, -1, 3);
        mirrored(2, 2, 0, 2, 1);
        mirrored(2, 2, 5, 1, 2);
        mirrored(-2, -2, 2, -1, -2);
        mirrored(-2, -2, 3, -2, -1);
    }

    /** Two of q, r and q + r out of range: straight back; just one: as at the wall. */
    private static void cornersSendBack() {
        int[][] corners = {{4, 0}, {4, -4}, {0, -4}, {-4, 0}, {-4, 4}, {0, 4}};
        int[][] steps = {{1, 0}, {1, -1}, {0, -1}, {-1, 0}, {-1, 1}, {0, 1}};
        for (int d = 0; d < 6; d++) {
            mirrored(corners[d][0], corners[d][1], d,
                corners[d][0] - steps[d][0], corners[d][1] - steps[d][1]);
        }
        mirrored(4, 0, 1, 3, 0);
        mirrored(4, 0, 5, 3, 0);
        mirrored(0, 4, 0, 0, 3);
        mirrored(0, 4, 4, 0, 3);
    }

    /** 2.0 at a bank that keeps half: 1.0, one step. Neither one third nor two turn it further. */
    private static void oneBankTurnsNoFurther() {
        HexBilliards x = withBall(4, -2);
        x.set(1, 50);
        for (int spin = 0; spin < 3; spin++) {
            Check.due("8: spin " + spin + ", one bank", x.would(0, 0, 20, spin, 4), x.cell(3, -1));
        }
    }

    /**
     * From (1, -4) in direction 1: the bank at r turns to 5; steps (1, -3) to (1, 3); the bank at
     * q + r turns to 3. With spin 2 there are 4 thirds then: they become 1, the direction 4.
     */
    private static void secondBankWithSpinTwo() {
        HexBilliards x = withBall(1, -4);
        x.set(1, 100);
        x.set(0, 95);
        Check.due("8: 8 steps", x.would(0, 1, 15, 2, 0), 8);
        Check.due("8: two banks", x.would(0, 1, 15, 2, 1), 2);
        Check.due("8: without spin", x.would(0, 1, 15, 0, 4), x.cell(0, 3));
        Check.due("8: spin 1 has 2 thirds", x.would(0, 1, 15, 1, 4), x.cell(0, 3));
        Check.due("8: spin 2 has 4 thirds", x.would(0, 1, 15, 2, 4), x.cell(0, 4));
    }

    /**
     * The same way with spin 1, further: from (0, 3) in direction 3 to (-4, 3), where the third
     * bank turns 3 to 1 (q alone is out); 3 thirds become 0, the direction 2.
     */
    private static void thirdBankWithSpinOne() {
        HexBilliards x = withBall(1, -4);
        x.set(1, 100);
        x.set(0, 97);
        Check.due("8: 12 steps", x.would(0, 1, 14, 0, 0), 12);
        x.set(0, 98);
        Check.due("8: 13 steps", x.would(0, 1, 13, 0, 0), 13);
        Check.due("8: three banks", x.would(0, 1, 13, 1, 1), 3);
        Check.due("8: without spin, after the third", x.would(0, 1, 13, 0, 4), x.cell(-3, 2));
        Check.due("8: spin 1 has 3 thirds", x.would(0, 1, 13, 1, 4), x.cell(-4, 2));
    }

    private static void spinOnEveryWay() {
        HexBilliards x = withBall(2, -4);
        x.set(1, 100);
        x.set(0, 99);
        Model m = new Model();
        m.put(x.cell(2, -4), 7);
        m.setPots(0);
        m.set(1, 100);
        m.set(0, 99);
        for (int cell = 0; cell <= 60; cell++) {
            x.move(0, cell);
            m.move(0, cell);
            for (int direction = 0; direction < 6; direction++) {
                for (int spin = 0; spin < 3; spin++) {
                    String shot = "8: from " + cell + ", direction " + direction + ", spin " + spin;
                    for (int strength = 12; strength < 999; strength += 141) {
                        Check.due(shot, x.would(0, direction, strength, spin, 4),
                            m.would(0, direction, strength, spin, 4));
                    }
                }
            }
        }
    }

    private static void hitsHandTheSpeedOn() {
        HexBilliards x = new HexBilliards();
        x.put(x.cell(0, 0), 3);
        x.put(x.cell(2, 0), 4);
        // 1.6 -> step 1.44 -> hit 1.008 -> step 0.9072
        Check.due("8: steps", x.would(0, 0, 16, 0, 0), 2);
        Check.due("8: shoot", x.shoot(0, 0, 0, 16, 0), 0);
        Check.due("8: the ball that hits stays before the other", x.ball(0, 0), x.cell(1, 0));
        Check.due("8: the other one goes on", x.ball(1, 0), x.cell(3, 0));
        Check.due("8: hits that 0 gave", x.ball(0, 4), 1);
        Check.due("8: hits that 1 gave", x.ball(1, 4), 0);
        Check.due("8: steps of 0", x.ball(0, 2), 1);
        Check.due("8: steps of 1", x.ball(1, 2), 1);
        Check.due("8: hits so far", x.count(9), 1);
        // 2.0 -> step 1.8 -> hit 1.26 -> step 1.134, into the pot
        Check.due("8: by a hit into the pot", x.shoot(1, 0, 0, 20, 0), 4);
        Check.due("8: the ball that was hit is gone", x.ball(1, 0), HexBilliards.UNKNOWN);
        Check.due("8: its corner is free", x.ofCell(34, 2), HexBilliards.NONE);
        Check.due("8: the hits of a ball count on", x.ball(0, 4), 2);
        Check.due("8: the value goes to who shoots", x.count(4), 4);
    }

    /** A ball in a corner whose pot is open is not gone by being hit there: it banks and goes on. */
    private static void hitInACorner() {
        HexBilliards x = new HexBilliards();
        x.put(x.cell(3, 0), 3);
        x.put(x.cell(4, 0), 4);
        Check.due("8: hit in a corner with little speed", x.shoot(0, 0, 0, 10, 0), 0);
        Check.due("8: it stays", x.ball(1, 0), 34);
        Check.due("8: it moves last all the same", x.would(0, 0, 10, 0, 5), 1);
        // 2.0 -> hit 1.4 -> bank 1.12 (back) -> hit 0.784
        Check.due("8: back and forth, hits", x.would(0, 0, 20, 0, 2), 2);
        Check.due("8: back and forth, banks", x.would(0, 0, 20, 0, 1), 1);
        Check.due("8: back and forth, last", x.would(0, 0, 20, 0, 5), 0);
        Check.due("8: nobody is gone", x.would(0, 0, 20, 0, 3), HexBilliards.NONE);
    }

    /**
     * The way of thirdBankWithSpinOne, by a ball that is hit on its first cell: whatever the spin
     * of the shot, three banks turn it no further.
     */
    private static void hitTakesTheSpinAway() {
        for (int spin = 0; spin < 3; spin++) {
            HexBilliards x = withBall(0, -3);
            x.put(x.cell(1, -4), 9);
            x.set(0, 98);
            x.set(1, 100);
            x.set(2, 99);
            x.shoot(0, 0, 1, 13, spin);
            Check.due("8: hit with spin " + spin + ", banks", x.ball(1, 3), 3);
            Check.due("8: hit with spin " + spin + ", steps", x.ball(1, 2), 13);
            Check.due("8: hit with spin " + spin + ", cell", x.ball(1, 0), x.cell(-3, 2));
        }
    }

    private static void turnsAndRuns() {
        HexBilliards x = new HexBilliards();
        x.put(x.cell(3, 0), 3);
        x.put(x.cell(0, 3), 5);
        x.put(x.cell(0, 0), 7);
        Check.due("8: player 0 begins", x.count(2), 0);
        Check.due("8: a ball is gone", x.shoot(0, 0, 0, 10, 0), 3);
        Check.due("8: who pots goes on", x.count(2), 0);
        Check.due("8: run 1", x.count(5), 1);
        Check.due("8: a second one", x.shoot(0, 1, 5, 10, 0), 5);
        Check.due("8: run 2", x.count(5), 2);
        Check.due("8: score of 0", x.count(3), 8);
        Check.due("8: gone by shots", x.count(7), 2);
        Check.due("8: none is gone", x.shoot(0, 2, 0, 10, 0), 0);
        Check.due("8: the other one's turn", x.count(2), 1);
        Check.due("8: run of the other", x.count(5), 0);
        Check.due("8: a miss of player 1", x.shoot(1, 2, 3, 10, 0), 0);
        Check.due("8: player 0 again", x.count(2), 0);
        Check.due("8: the run begins again", x.count(5), 0);
        Check.due("8: shots so far", x.count(6), 4);
        Check.due("8: balls left", x.count(0), 1);
        x.undo();
        x.undo();
        Check.due("8: undone, turn", x.count(2), 0);
        Check.due("8: undone, run", x.count(5), 2);
        Check.due("8: undone, shots", x.count(6), 2);
        x.undo();
        Check.due("8: undone, score", x.count(3), 3);
        Check.due("8: undone, the ball is back", x.ball(1, 0), x.cell(0, 3));
        Check.due("8: undone, gone by shots", x.count(7), 1);
    }

    private static void shootErrors() {
        HexBilliards x = withBall(0, 0);
        int[] noPlayers = {-1, 2, Integer.MIN_VALUE, Integer.MAX_VALUE};
        for (int player : noPlayers) {
            Check.due("8: player " + player, x.shoot(player, 0, 6, 10, 0), HexBilliards.UNKNOWN);
        }
        int[] noBalls = {-1, 1, 12, Integer.MIN_VALUE, Integer.MAX_VALUE};
        for (int ball : noBalls) {
            Check.due("8: ball " + ball, x.shoot(1, ball, 6, 10, 0), HexBilliards.UNKNOWN);
        }
        int[] noDirections = {-1, 6, Integer.MIN_VALUE, Integer.MAX_VALUE};
        for (int direction : noDirections) {
            Check.due("8: direction " + direction, x.shoot(1, 0, direction, 10, 0), HexBilliards.BAD_VALUE);
        }
        int[] noStrengths = {9, 1000, 0, -10, Integer.MIN_VALUE, Integer.MAX_VALUE};
        for (int strength : noStrengths) {
            Check.due("8: strength " + strength, x.shoot(1, 0, 0, strength, 0), HexBilliards.BAD_VALUE);
        }
        int[] noSpins = {-1, 3, Integer.MIN_VALUE, Integer.MAX_VALUE};
        for (int spin : noSpins) {
            Check.due("8: spin " + spin, x.shoot(1, 0, 0, 10, spin), HexBilliards.BAD_VALUE);
        }
        Check.due("8: the other one's turn", x.shoot(1, 0, 0, 10, 0), HexBilliards.NOT_POSSIBLE);
        Check.due("8: errors record nothing", x.count(14), 2);
        Check.due("8: errors are no shots", x.count(6), 0);
        Check.due("8: a shot without a gone ball is an act", x.shoot(0, 0, 0, 10, 2), 0);
        Check.due("8: it is recorded", x.count(14), 3);
    }

    private static void pass() {
        HexBilliards x = new HexBilliards();
        x.put(x.cell(3, 0), 3);
        x.put(0, 5);
        Check.due("9: pass(1)", x.pass(1), HexBilliards.NOT_POSSIBLE);
        int[] noPlayers = {-1, 2, Integer.MIN_VALUE, Integer.MAX_VALUE};
        for (int player : noPlayers) {
            Check.due("9: pass(" + player + ")", x.pass(player), HexBilliards.UNKNOWN);
        }
        Check.due("9: errors record nothing", x.count(14), 2);
        x.shoot(0, 0, 0, 10, 0);
        Check.due("9: the run that the player had", x.pass(0), 1);
        Check.due("9: the other one's turn", x.count(2), 1);
        Check.due("9: without a run", x.count(5), 0);
        Check.due("9: pass(0)", x.pass(0), HexBilliards.NOT_POSSIBLE);
        Check.due("9: pass(1) back", x.pass(1), 0);
        Check.due("9: player 0 again", x.count(2), 0);
        Check.due("9: player 0 has no run more", x.count(5), 0);
        Check.due("9: no shots", x.count(6), 1);
        Check.due("9: the score stays", x.count(3), 3);
        x.undo();
        x.undo();
        Check.due("9: undone", x.count(5), 1);
    }

    /** The most speed with the least loss, banks at every end: it ends, with a speed below 1. */
    private static void longestShot() {
        HexBilliards x = withBall(0, 0);
        x.set(0, 99);
        x.set(1, 100);
        Check.due("8: the longest shot, steps", x.would(0, 0, 999, 0, 0), 459);
        Check.due("8: the longest shot, banks", x.would(0, 0, 999, 0, 1), 57);
        Check.holds("8: a speed below 1 is left", x.speedLeft(0, 0, 999, 0) < 1.0f);
    }
}
