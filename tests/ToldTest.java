/** Promises 15 to 22: what is told without a change. */
public final class ToldTest {
    public static void main(String[] args) {
        cell();
        ofCell();
        ball();
        would();
        speedLeft();
        along();
        turnedBackGoesHome();
        best();
        count();
        tellingChangesNothing();
        Check.end("ToldTest");
    }

    private static void cell() {
        HexBilliards x = new HexBilliards();
        int number = 0;
        for (int r = -6; r <= 6; r++) {
            for (int q = -6; q <= 6; q++) {
                boolean on = Math.abs(q) <= 4 && Math.abs(r) <= 4 && Math.abs(q + r) <= 4;
                Check.due("15: cell(" + q + ", " + r + ")", x.cell(q, r), on ? number : HexBilliards.NONE);
                if (on) {
                    Check.due("16: q of " + number, x.ofCell(number, 0), q + 4);
                    Check.due("16: r of " + number, x.ofCell(number, 1), r + 4);
                    number++;
                }
            }
        }
        Check.due("15: cells", number, 61);
        int[] far = {Integer.MIN_VALUE, Integer.MAX_VALUE, 5, -5};
        for (int a : far) {
            Check.due("15: cell(" + a + ", 0)", x.cell(a, 0), HexBilliards.NONE);
            Check.due("15: cell(0, " + a + ")", x.cell(0, a), HexBilliards.NONE);
            Check.due("15: cell(" + a + ", " + a + ")", x.cell(a, a), HexBilliards.NONE);
            Check.due("15: cell(" + a + ", minus it)", x.cell(a, -a), HexBilliards.NONE);
        }
    }

    private static void ofCell() {
        HexBilliards x = new HexBilliards();
        int[] corners = {34, 4, 0, 26, 56, 60};
        int[] cornerOf = new int[61];
        java.util.Arrays.fill(cornerOf, HexBilliards.NONE);
        for (int corner = 0; corner < 6; corner++) {
            cornerOf[corners[corner]] = corner;
        }
        int three = 0;
        int four = 0;
        for (int cell = 0; cell <= 60; cell++) {
            Check.due("16: corner of " + cell, x.ofCell(cell, 3), cornerOf[cell]);
            three += x.ofCell(cell, 4) == 3 ? 1 : 0;
            four += x.ofCell(cell, 4) == 4 ? 1 : 0;
            Check.due("16: corners have three beside", x.ofCell(cell, 4) == 3 ? 1 : 0, cornerOf[cell] >= 0 ? 1 : 0);
        }
        Check.due("16: with three beside", three, 6);
        Check.due("16: with four beside", four, 18);
        Check.due("16: with six beside", x.ofCell(30, 4), 6);
        x.put(12, 3);
        x.put(13, 3);
        Check.due("16: the ball there", x.ofCell(13, 2), 1);
        Check.due("16: no ball there", x.ofCell(14, 2), HexBilliards.NONE);
        int[] noCells = {-1, 61, Integer.MIN_VALUE, Integer.MAX_VALUE};
        for (int cell : noCells) {
            for (int what = -1; what <= 5; what++) {
                Check.due("16: ofCell(" + cell + ", " + what + ")", x.ofCell(cell, what), HexBilliards.UNKNOWN);
            }
        }
        int[] noWhats = {-1, 5, Integer.MIN_VALUE, Integer.MAX_VALUE};
        for (int what : noWhats) {
            Check.due("16: ofCell(0, " + what + ")", x.ofCell(0, what), HexBilliards.BAD_VALUE);
        }
    }

    private static void ball() {
        HexBilliards x = new HexBilliards();
        x.setPots(0);
        x.put(x.cell(2, 0), 11);
        x.put(x.cell(1, 0), 12);
        // 3.0: steps 2.7, 2.43, bank 1.944, steps 1.7496, 1.57464 to (2, 0), hit 1.102.., step 0.99..
        x.shoot(0, 0, 0, 30, 0);
        int[] want = {x.cell(2, 0), 11, 4, 1, 1};
        for (int what = 0; what < 5; what++) {
            Check.due("17: ball(0, " + what + ")", x.ball(0, what), want[what]);
        }
        Check.due("17: no hits of the other", x.ball(1, 4), 0);
        Check.due("17: a step of the other", x.ball(1, 2), 1);
        // As before, but that there is one step more to the other one.
        x.shoot(1, 0, 0, 30, 0);
        Check.due("17: steps so far", x.ball(0, 2), 9);
        Check.due("17: banks so far", x.ball(0, 3), 2);
        Check.due("17: hits so far", x.ball(0, 4), 2);
        int[] noBalls = {-1, 2, 11, 12, Integer.MIN_VALUE, Integer.MAX_VALUE};
        for (int ball : noBalls) {
            for (int what = -1; what <= 5; what++) {
                Check.due("17: ball(" + ball + ", " + what + ")", x.ball(ball, what), HexBilliards.UNKNOWN);
            }
        }
        int[] noWhats = {-1, 5, Integer.MIN_VALUE, Integer.MAX_VALUE};
        for (int what : noWhats) {
            Check.due("17: ball(0, " + what + ")", x.ball(0, what), HexBilliards.BAD_VALUE);
        }
        x.takeOff(1);
        Check.due("17: a gone ball", x.ball(1, 1), HexBilliards.UNKNOWN);
    }

    private static void would() {
        HexBilliards x = new HexBilliards();
        x.put(x.cell(0, 0), 3);
        x.put(x.cell(2, 0), 4);
        // 2.0 -> step 1.8 -> hit 1.26 -> step 1.134 -> step 1.0206, into the pot
        int[] gone = {3, 0, 1, 1, x.cell(1, 0), 1};
        for (int what = 0; what < 6; what++) {
            Check.due("18: would(0, 0, 20, 0, " + what + ")", x.would(0, 0, 20, 0, what), gone[what]);
        }
        // 1.6 -> step 1.44 -> hit 1.008 -> step 0.9072
        int[] stays = {2, 0, 1, HexBilliards.NONE, x.cell(1, 0), 1};
        for (int what = 0; what < 6; what++) {
            Check.due("18: would(0, 0, 16, 0, " + what + ")", x.would(0, 0, 16, 0, what), stays[what]);
        }
        int[] itself = {4, 0, 0, 0, HexBilliards.NONE, 0};
        for (int what = 0; what < 6; what++) {
            Check.due("18: would(0, 3, 20, 0, " + what + ")", x.would(0, 3, 20, 0, what), itself[what]);
        }
        x.shoot(0, 0, 0, 16, 0);
        Check.due("18: whoever's turn it is", x.would(0, 3, 10, 0, 0), 1);
        wouldBankOnly();
        wouldErrors(x);
    }

    /** A bank that takes the speed below 1: no step, no hit, and the ball stays where it is. */
    private static void wouldBankOnly() {
        HexBilliards x = new HexBilliards();
        x.put(x.cell(4, -2), 3);
        int[] want = {0, 1, 0, HexBilliards.NONE, x.cell(4, -2), 0};
        for (int what = 0; what < 6; what++) {
            Check.due("18: would(0, 0, 12, 0, " + what + ")", x.would(0, 0, 12, 0, what), want[what]);
        }
    }

    private static void wouldErrors(HexBilliards x) {
        int[] noBalls = {-1, 2, 12, Integer.MIN_VALUE, Integer.MAX_VALUE};
        for (int ball : noBalls) {
            Check.due("18: ball " + ball, x.would(ball, 6, 10, 0, 0), HexBilliards.UNKNOWN);
            Check.due("19: ball " + ball, x.speedLeft(ball, 0, 10, 0), -1.0);
        }
        int[] noDirections = {-1, 6, Integer.MIN_VALUE, Integer.MAX_VALUE};
        for (int direction : noDirections) {
            Check.due("18: direction " + direction, x.would(0, direction, 10, 0, 0), HexBilliards.BAD_VALUE);
            Check.due("19: direction " + direction, x.speedLeft(0, direction, 10, 0), -1.0);
        }
        int[] noStrengths = {9, 1000, Integer.MIN_VALUE, Integer.MAX_VALUE};
        for (int strength : noStrengths) {
            Check.due("18: strength " + strength, x.would(0, 0, strength, 0, 0), HexBilliards.BAD_VALUE);
            Check.due("19: strength " + strength, x.speedLeft(0, 0, strength, 0), -1.0);
            Check.due("21: strength " + strength, x.best(strength, 0, 0), HexBilliards.BAD_VALUE);
        }
        int[] noSpins = {-1, 3, Integer.MIN_VALUE, Integer.MAX_VALUE};
        for (int spin : noSpins) {
            Check.due("18: spin " + spin, x.would(0, 0, 10, spin, 0), HexBilliards.BAD_VALUE);
            Check.due("19: spin " + spin, x.speedLeft(0, 0, 10, spin), -1.0);
            Check.due("21: spin " + spin, x.best(10, spin, 0), HexBilliards.BAD_VALUE);
        }
        int[] noWhats = {-1, 6, Integer.MIN_VALUE, Integer.MAX_VALUE};
        for (int what : noWhats) {
            Check.due("18: what " + what, x.would(0, 0, 10, 0, what), HexBilliards.BAD_VALUE);
            Check.due("18: the ball before what " + what, x.would(7, 0, 10, 0, what), HexBilliards.UNKNOWN);
        }
    }

    private static void speedLeft() {
        HexBilliards x = new HexBilliards();
        x.put(x.cell(0, 0), 3);
        x.put(x.cell(0, 2), 3);
        float kept = 90 / 100.0f;
        Check.due("19: one step", x.speedLeft(0, 0, 11, 0), 11 / 10.0f * kept);
        Check.due("19: three steps", x.speedLeft(0, 0, 13, 0), 13 / 10.0f * kept * kept * kept);
        Check.due("19: the speed when it is gone", x.speedLeft(0, 0, 999, 0), 999 / 10.0f * kept * kept * kept * kept);
        Check.due("19: a hit", x.speedLeft(0, 5, 14, 0), 14 / 10.0f * kept * (70 / 100.0f));
        x.move(0, x.cell(4, -2));
        Check.due("19: a bank", x.speedLeft(0, 0, 12, 0), 12 / 10.0f * (80 / 100.0f));
        x.set(0, 50);
        x.set(1, 100);
        Check.due("19: a bank that keeps all", x.speedLeft(0, 0, 12, 0), 12 / 10.0f * 1.0f * 0.5f);
    }

    private static void along() {
        HexBilliards x = new HexBilliards();
        x.put(x.cell(1, 0), 3);
        Check.due("20: no step", x.along(30, 0, 0, false), 30);
        Check.due("20: no step and back", x.along(30, 0, 0, true), 30);
        Check.due("20: other balls are not there", x.along(30, 0, 1, false), 31);
        Check.due("20: open pots are shut", x.along(30, 0, 4, false), 34);
        Check.due("20: back from the corner", x.along(30, 0, 5, false), 33);
        Check.due("20: at a wall", x.along(x.cell(4, -2), 0, 1, false), x.cell(3, -1));
        Check.due("20: 99 steps between two corners", x.along(30, 0, 99, false), x.cell(3, 0));
        Check.due("20: from the last cell", x.along(60, 0, 1, false), 54);
        int[] noCells = {-1, 61, Integer.MIN_VALUE, Integer.MAX_VALUE};
        for (int cell : noCells) {
            Check.due("20: cell " + cell, x.along(cell, 0, 1, false), HexBilliards.UNKNOWN);
            Check.due("20: the cell first, " + cell, x.along(cell, 6, 100, true), HexBilliards.UNKNOWN);
        }
        int[] noDirections = {-1, 6, Integer.MIN_VALUE, Integer.MAX_VALUE};
        for (int direction : noDirections) {
            Check.due("20: direction " + direction, x.along(0, direction, 1, false), HexBilliards.BAD_VALUE);
        }
        int[] noSteps = {-1, 100, Integer.MIN_VALUE, Integer.MAX_VALUE};
        for (int steps : noSteps) {
            Check.due("20: steps " + steps, x.along(0, 0, steps, true), HexBilliards.BAD_VALUE);
        }
    }

    /** What the document does not say but its terms bring about, against the model on every way. */
    private static void turnedBackGoesHome() {
        HexBilliards x = new HexBilliards();
        Model m = new Model();
        for (int cell = 0; cell <= 60; cell++) {
            for (int direction = 0; direction < 6; direction++) {
                for (int steps = 0; steps <= 99; steps++) {
                    String way = "20: along(" + cell + ", " + direction + ", " + steps;
                    Check.due(way + ", false)", x.along(cell, direction, steps, false),
                        m.along(cell, direction, steps, false));
                    Check.due(way + ", true)", x.along(cell, direction, steps, true),
                        m.along(cell, direction, steps, true));
                }
            }
        }
    }

    private static void best() {
        HexBilliards x = new HexBilliards();
        Check.due("21: no ball", x.best(999, 0, 0), HexBilliards.NONE);
        x.put(x.cell(0, 0), 5);
        Check.due("21: nothing to win", x.best(10, 0, 2), HexBilliards.NONE);
        Check.due("21: nothing to win, ball", x.best(10, 0, 0), HexBilliards.NONE);
        Check.due("21: nothing to win, direction", x.best(10, 0, 1), HexBilliards.NONE);
        Check.due("21: the lowest direction of six", x.best(20, 0, 1), 0);
        x.setPots(62);
        Check.due("21: direction 0 is shut", x.best(16, 0, 1), 1);
        x.setPots(63);
        x.put(x.cell(2, -1), 5);
        x.put(x.cell(-1, 3), 5);
        x.put(x.cell(-3, 0), 6);
        Check.due("21: the most", x.best(10, 0, 2), 6);
        Check.due("21: the ball of the most", x.best(10, 0, 0), 3);
        Check.due("21: the direction of the most", x.best(10, 0, 1), 3);
        x.takeOff(3);
        Check.due("21: the lowest ball of several", x.best(16, 0, 0), 0);
        x.shoot(0, 1, 3, 10, 0);
        Check.due("21: whoever's turn it is", x.best(16, 0, 2), 5);
        int[] noWhats = {-1, 3, Integer.MIN_VALUE, Integer.MAX_VALUE};
        for (int what : noWhats) {
            Check.due("21: what " + what, x.best(10, 0, what), HexBilliards.BAD_VALUE);
        }
        bestByAHit();
        bestOfTheLeastValue();
    }

    private static void bestOfTheLeastValue() {
        HexBilliards x = new HexBilliards();
        x.put(x.cell(-3, 0), 1);
        Check.due("21: the least value, won", x.best(10, 0, 2), 1);
        Check.due("21: the least value, ball", x.best(10, 0, 0), 0);
        Check.due("21: the least value, direction", x.best(10, 0, 1), 3);
    }

    /** Ball 1 is worth more, and ball 0 can pot it too: the lowest ball that does it is told. */
    private static void bestByAHit() {
        HexBilliards x = new HexBilliards();
        x.put(x.cell(1, 0), 2);
        x.put(x.cell(2, 0), 20);
        Check.due("21: by a hit, ball", x.best(30, 0, 0), 0);
        Check.due("21: by a hit, direction", x.best(30, 0, 1), 0);
        Check.due("21: by a hit, won", x.best(30, 0, 2), 20);
    }

    private static void count() {
        HexBilliards x = new HexBilliards();
        x.put(x.cell(3, 0), 3);
        x.put(x.cell(4, -2), 4);
        x.put(x.cell(0, 0), 5);
        x.put(x.cell(1, 0), 6);
        x.takeOff(3);
        x.put(x.cell(1, 0), 7);
        x.type('5');
        x.shoot(0, 0, 0, 10, 0);
        x.shoot(0, 1, 0, 12, 0);
        x.shoot(1, 2, 0, 10, 0);
        x.pass(0);
        x.setPots(62);
        x.set(0, 91);
        x.set(1, 81);
        x.set(2, 71);
        int[] want = {3, 5, 1, 3, 0, 0, 3, 1, 1, 1, 62, 91, 81, 71, 4, 1};
        for (int what = 0; what < 16; what++) {
            Check.due("22: count(" + what + ")", x.count(what), want[what]);
        }
        int[] noWhats = {-1, 16, Integer.MIN_VALUE, Integer.MAX_VALUE};
        for (int what : noWhats) {
            Check.due("22: count(" + what + ")", x.count(what), HexBilliards.BAD_VALUE);
        }
        countsOfGoneBalls();
    }

    /** Banks and hits so far go on counting those of balls that are gone. */
    private static void countsOfGoneBalls() {
        HexBilliards x = new HexBilliards();
        x.put(x.cell(4, -1), 3);
        x.put(x.cell(3, -1), 9);
        // A bank that takes the speed below 1, then a hit that does.
        x.shoot(0, 0, 0, 12, 0);
        x.shoot(1, 0, 3, 10, 0);
        Check.due("22: banks", x.count(8), 1);
        Check.due("22: hits", x.count(9), 1);
        x.takeOff(0);
        Check.due("22: banks of a gone ball", x.count(8), 1);
        Check.due("22: hits of a gone ball", x.count(9), 1);
    }

    private static void tellingChangesNothing() {
        HexBilliards x = new HexBilliards();
        x.put(x.cell(0, 0), 3);
        x.put(x.cell(2, 0), 4);
        int[] before = new int[16];
        for (int what = 0; what < 16; what++) {
            before[what] = x.count(what);
        }
        for (int direction = 0; direction < 6; direction++) {
            x.would(0, direction, 700, 2, 0);
            x.speedLeft(1, direction, 700, 2);
            x.along(30, direction, 50, true);
        }
        x.best(999, 1, 0);
        for (int what = 0; what < 16; what++) {
            Check.due("18 to 21: count(" + what + ")", x.count(what), before[what]);
        }
        Check.due("18 to 21: ball 0", x.ball(0, 0), 30);
        Check.due("18 to 21: ball 1", x.ball(1, 0), 32);
        Check.due("18 to 21: steps of 0", x.ball(0, 2), 0);
        Check.due("18 to 21: banks of 0", x.ball(0, 3), 0);
    }
}
