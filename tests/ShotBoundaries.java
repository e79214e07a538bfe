/** A SHOT: each sentence that names a boundary. */
public final class ShotBoundaries {
    private static final int STEPS = 0;
    private static final int BANKS = 1;
    private static final int HITS = 2;
    private static final int GONE = 3;
    private static final int CELL = 4;
    private static final int LAST = 5;

    public static void main(String[] args) throws IllegalAccessException {
        Sentences.test(ShotBoundaries.class);
    }

    /** Little is lost: strength 11 makes 10 steps, 12 makes 19, 13 makes 27, however many banks. */
    private static HexBilliards far(int q, int r) {
        HexBilliards x = Table.shutWithBall(q, r);
        x.set(0, 99);
        x.set(1, 100);
        return x;
    }

    // ---- settings

    @Sentence(of = "A SHOT", says = "0 what is kept at a step (50 to 99; 90)")
    static void keptAtAStep() {
        HexBilliards x = Table.withBall(0, 0);
        Check.due("first", x.count(11), 90);
        Check.due("49", x.set(0, 49), HexBilliards.BAD_VALUE);
        Check.due("100", x.set(0, 100), HexBilliards.BAD_VALUE);
        Check.due("a step at 90", x.speedLeft(0, 0, 10, 0), 0.9f);
        Check.due("50", x.set(0, 50), 90);
        Check.due("a step at 50", x.speedLeft(0, 0, 10, 0), 0.5f);
        Check.due("99", x.set(0, 99), 50);
        Check.due("steps at 99", x.would(0, 0, 10, 0, STEPS), 1);
        Check.due("a step at 99", x.speedLeft(0, 0, 10, 0), 0.99f);
    }

    @Sentence(of = "A SHOT", says = "1 what is kept at a bank (50 to 100; 80)")
    static void keptAtABank() {
        HexBilliards x = Table.withBall(4, -2);
        Check.due("first", x.count(12), 80);
        Check.due("49", x.set(1, 49), HexBilliards.BAD_VALUE);
        Check.due("101", x.set(1, 101), HexBilliards.BAD_VALUE);
        Check.due("a bank at 80", x.speedLeft(0, 0, 10, 0), 0.8f);
        Check.due("50", x.set(1, 50), 80);
        Check.due("a bank at 50", x.speedLeft(0, 0, 10, 0), 0.5f);
        Check.due("100", x.set(1, 100), 50);
        Check.due("a bank at 100 loses nothing, then a step", x.speedLeft(0, 0, 10, 0), 0.9f);
    }

    @Sentence(of = "A SHOT", says = "2 what is kept at a hit (50 to 99; 70)")
    static void keptAtAHit() {
        HexBilliards x = Table.withBall(0, 0);
        x.put(31, 1);
        Check.due("first", x.count(13), 70);
        Check.due("49", x.set(2, 49), HexBilliards.BAD_VALUE);
        Check.due("100", x.set(2, 100), HexBilliards.BAD_VALUE);
        Check.due("a hit at 70", x.speedLeft(0, 0, 10, 0), 0.7f);
        Check.due("50", x.set(2, 50), 70);
        Check.due("a hit at 50", x.speedLeft(0, 0, 10, 0), 0.5f);
        Check.due("99", x.set(2, 99), 50);
        Check.due("a hit at 99", x.speedLeft(0, 0, 10, 0), 0.99f);
    }

    @Sentence(of = "A SHOT", says = "all in hundredths.")
    static void fiftyIsAHalfAndAHundredAll() {
        HexBilliards x = Table.withBall(4, -2);
        x.put(Table.at(3, -2), 1);
        x.set(0, 50);
        x.set(1, 50);
        x.set(2, 50);
        Check.due("a step keeps a half", x.speedLeft(0, 4, 16, 0), 0.8f);
        Check.due("a bank keeps a half", x.speedLeft(0, 0, 16, 0), 0.8f);
        Check.due("a hit keeps a half", x.speedLeft(0, 3, 16, 0), 0.8f);
        x.set(1, 100);
        Check.due("a bank keeps all, then a step a half", x.speedLeft(0, 0, 16, 0), 0.8f);
    }

    // ---- strength, spin and speed

    @Sentence(of = "A SHOT", says = "with a strength (10 to 999)")
    static void strengthsTenTo999() {
        HexBilliards x = Table.shutWithBall(0, 0);
        Check.due("9", x.would(0, 0, 9, 0, STEPS), HexBilliards.BAD_VALUE);
        Check.due("10", x.would(0, 0, 10, 0, STEPS), 1);
        Check.due("999 makes steps", x.would(0, 0, 999, 0, STEPS) > 20 ? 1 : 0, 1);
        Check.due("1000", x.would(0, 0, 1000, 0, STEPS), HexBilliards.BAD_VALUE);
    }

    @Sentence(of = "A SHOT", says = "and a spin (0 to 2)")
    static void spinsZeroToTwo() {
        HexBilliards x = Table.shutWithBall(0, 0);
        Check.due("-1", x.would(0, 0, 10, -1, STEPS), HexBilliards.BAD_VALUE);
        for (int spin = 0; spin <= 2; spin++) {
            Check.due("spin " + spin, x.would(0, 0, 10, spin, STEPS), 1);
        }
        Check.due("3", x.would(0, 0, 10, 3, STEPS), HexBilliards.BAD_VALUE);
    }

    @Sentence(of = "A SHOT", says = "The speed, a float, is (float) strength / 10.0f at first")
    static void speedIsAFloat() {
        HexBilliards x = Table.shutWithBall(-4, 0);
        x.set(0, 60);
        int rounded = 0;
        for (int strength = 10; strength <= 500; strength++) {
            float speed = (float) strength / 10.0f;
            double wide = strength / 10.0;
            while (speed >= 1.0f) {
                speed = speed * (60.0f / 100.0f);
                wide = wide * 0.6;
            }
            rounded += speed != (float) wide ? 1 : 0;
            Check.due("strength " + strength, x.speedLeft(0, 0, strength, 0), speed);
        }
        Check.holds("doubles would answer otherwise", rounded > 0);
        HexBilliards y = Table.withBall(0, 0);
        float kept = 90.0f / 100.0f;
        Check.due("the highest", y.speedLeft(0, 0, 999, 0), 99.9f * kept * kept * kept * kept);
        Check.due("the lowest", y.speedLeft(0, 0, 10, 0), 1.0f * kept);
    }

    /** A bank with spin 2 that ends the shot leaves two thirds; the next shot begins without them. */
    @Sentence(of = "A SHOT", says = "the thirds are 0")
    static void eachShotBeginsWithoutThirds() {
        HexBilliards x = Table.shutWithBall(4, -2);
        for (int i = 0; i < 3; i++) {
            x.shoot(i % 2, 0, 0, 12, 2);
            Check.due("it banks where it is", x.ball(0, 0), Table.at(4, -2));
        }
        Check.due("the next shot", x.would(0, 0, 20, 2, CELL), Table.at(-1, 3));
        x.shoot(1, 0, 0, 20, 2);
        Check.due("and when it is shot", x.ball(0, 0), Table.at(-1, 3));
    }

    @Sentence(of = "A SHOT", says = "as long as its speed is at least 1.0f")
    static void speedOneMovesStill() {
        HexBilliards x = Table.shutWithBall(0, 0);
        x.set(0, 50);
        Check.due("1.0 at first", x.would(0, 0, 10, 0, STEPS), 1);
        Check.due("0.95 behind a step", x.would(0, 0, 19, 0, STEPS), 1);
        Check.due("1.0 behind a step", x.would(0, 0, 20, 0, STEPS), 2);
        Check.due("1.0 behind two steps", x.would(0, 0, 40, 0, STEPS), 3);
        x.set(2, 50);
        x.put(31, 1);
        Check.due("0.95 behind a hit", x.would(0, 0, 19, 0, STEPS), 0);
        Check.due("1.0 behind a hit", x.would(0, 0, 20, 0, STEPS), 1);
        x.set(1, 50);
        x.move(0, Table.at(4, -2));
        Check.due("0.95 behind a bank", x.would(0, 0, 19, 0, STEPS), 0);
        Check.due("1.0 behind a bank", x.would(0, 0, 20, 0, STEPS), 1);
    }

    // ---- banks

    @Sentence(of = "A SHOT", says = "if the cell ahead of it (a step in its direction) is not on the felt, that is a bank")
    static void aBankAtEachWallAlone() {
        for (int q = -4; q <= 4; q++) {
            for (int r = Math.max(-4, -4 - q); r <= Math.min(4, 4 - q); r++) {
                HexBilliards x = Table.shutWithBall(q, r);
                for (int d = 0; d < 6; d++) {
                    int aheadQ = q + Table.STEP_Q[d];
                    int aheadR = r + Table.STEP_R[d];
                    boolean out = Math.abs(aheadQ) > 4 || Math.abs(aheadR) > 4 || Math.abs(aheadQ + aheadR) > 4;
                    String shot = "(" + q + ", " + r + ") in direction " + d;
                    Check.due(shot + ", banks", x.would(0, d, 10, 0, BANKS), out ? 1 : 0);
                    Check.due(shot + ", steps", x.would(0, d, 10, 0, STEPS), out ? 0 : 1);
                }
            }
        }
    }

    @Sentence(of = "A SHOT", says = "the speed becomes speed * ((float) of the setting 1 / 100.0f)")
    static void speedBehindABank() {
        HexBilliards x = Table.shutWithBall(4, -2);
        Check.due("at 80", x.speedLeft(0, 0, 12, 0), 1.2f * (80.0f / 100.0f));
        x.set(1, 50);
        Check.due("at 50", x.speedLeft(0, 0, 19, 0), 1.9f * (50.0f / 100.0f));
        x.set(1, 83);
        Check.due("at 83", x.speedLeft(0, 0, 11, 0), 1.1f * (83.0f / 100.0f));
        x.set(1, 100);
        Check.due("at 100", x.speedLeft(0, 0, 11, 0), 1.1f * (90.0f / 100.0f));
        // 1.5 at a bank of 80: 1.2, two steps.
        x.set(1, 80);
        Check.due("and the ball goes on with it", x.would(0, 0, 15, 0, STEPS), 2);
    }

    private static void turns(int q, int r, int direction, int to) {
        HexBilliards x = far(q, r);
        int cell = Table.at(q + Table.STEP_Q[to], r + Table.STEP_R[to]);
        String shot = "(" + q + ", " + r + ") in direction " + direction;
        Check.due(shot, x.would(0, direction, 10, 0, CELL), cell);
        Check.due(shot + ", along", x.along(Table.at(q, r), direction, 1, false), cell);
    }

    @Sentence(of = "A SHOT", says = "If just one of q, r and q + r would be out of its range there")
    static void justQ() {
        for (int i = 1; i <= 3; i++) {
            turns(4, -i, 0, 4);
            turns(4, -i, 1, 3);
            turns(-4, i, 3, 1);
            turns(-4, i, 4, 0);
        }
        // At the corners, where just q is out.
        turns(4, 0, 1, 3);
        turns(4, -4, 0, 4);
        turns(-4, 0, 4, 0);
        turns(-4, 4, 3, 1);
    }

    @Sentence(of = "A SHOT", says = "d becomes (2 * e - d) modulo 6 (0 to 5)")
    static void justR() {
        for (int i = 1; i <= 3; i++) {
            turns(i, -4, 1, 5);
            turns(i, -4, 2, 4);
            turns(-i, 4, 4, 2);
            turns(-i, 4, 5, 1);
        }
        turns(0, -4, 1, 5);
        turns(4, -4, 2, 4);
        turns(0, 4, 4, 2);
        turns(-4, 4, 5, 1);
    }

    @Sentence(of = "A SHOT", says = "e being 2, 0 or 1 for q, r or q + r")
    static void justTheSum() {
        for (int i = 1; i <= 3; i++) {
            turns(i, 4 - i, 0, 2);
            turns(i, 4 - i, 5, 3);
            turns(-i, i - 4, 2, 0);
            turns(-i, i - 4, 3, 5);
        }
        turns(4, 0, 5, 3);
        turns(0, 4, 0, 2);
        turns(0, -4, 3, 5);
        turns(-4, 0, 2, 0);
    }

    @Sentence(of = "A SHOT", says = "if two would be, d becomes the opposite one, (d + 3) modulo 6")
    static void twoAtACorner() {
        for (int d = 0; d < 6; d++) {
            turns(Table.CORNER_Q[d], Table.CORNER_R[d], d, (d + 3) % 6);
        }
    }

    // ---- spin

    /** From corner 0 into it: back along the row, a bank at the corner behind it each 8 steps. */
    @Sentence(of = "A SHOT", says = "Then the thirds are more by the spin")
    static void spinAtEachBank() {
        HexBilliards x = far(4, 0);
        Check.due("2 banks, spin 0", x.would(0, 0, 11, 0, CELL), Table.at(-2, 0));
        Check.due("2 banks, spin 1", x.would(0, 0, 11, 1, CELL), Table.at(-2, 0));
        Check.due("2 banks, spin 2", x.would(0, 0, 11, 2, CELL), Table.at(-2, -2));
        Check.due("3 banks, spin 0", x.would(0, 0, 12, 0, CELL), Table.at(1, 0));
        Check.due("3 banks, spin 1", x.would(0, 0, 12, 1, CELL), Table.at(1, 3));
        Check.due("banks", x.would(0, 0, 12, 0, BANKS), 3);
    }

    @Sentence(of = "A SHOT", says = "if they are 3 or more")
    static void twoThirdsAreNotEnough() {
        for (int d = 0; d < 6; d++) {
            HexBilliards x = far(Table.CORNER_Q[d], Table.CORNER_R[d]);
            int back = Table.at(-2 * Table.STEP_Q[d], -2 * Table.STEP_R[d]);
            int turned = (d + 4) % 6;
            int aside = Table.at(Table.CORNER_Q[d] + 3 * Table.STEP_Q[turned],
                Table.CORNER_R[d] + 3 * Table.STEP_R[turned]);
            Check.due("2 thirds, by spin 1", x.would(0, d, 11, 1, CELL), back);
            Check.due("just 3 thirds, by spin 1", x.would(0, d, 12, 1, CELL), aside);
            Check.due("2 thirds, by spin 2", x.would(0, d, 10, 2, CELL),
                Table.at(3 * Table.STEP_Q[d], 3 * Table.STEP_R[d]));
        }
    }

    /**
     * Spin 2 has 4 thirds at the second bank, so 1 is left and the third bank, at (0, -4), turns too;
     * none is left then, and the fourth, at (4, -4), does not.
     * Spin 1 has just 3 at the third one, so none is left and the fourth, at (0, 4), does not.
     */
    @Sentence(of = "A SHOT", says = "they are less by 3 in any case")
    static void theRestOfTheThirdsStays() {
        HexBilliards x = far(4, 0);
        x.set(0, 98);
        Check.due("spin 2, banks", x.would(0, 0, 13, 2, BANKS), 3);
        Check.due("spin 2, steps", x.would(0, 0, 13, 2, STEPS), 13);
        Check.due("spin 2", x.would(0, 0, 13, 2, CELL), Table.at(1, -4));
        x.set(0, 99);
        Check.due("spin 2, one bank more", x.would(0, 0, 12, 2, BANKS), 4);
        Check.due("spin 2, not turned by it", x.would(0, 0, 12, 2, CELL), Table.at(1, -1));
        Check.due("spin 1, banks", x.would(0, 0, 13, 1, BANKS), 4);
        Check.due("spin 1, steps", x.would(0, 0, 13, 1, STEPS), 27);
        Check.due("spin 1", x.would(0, 0, 13, 1, CELL), Table.at(0, -3));
    }

    @Sentence(of = "A SHOT", says = "the direction becomes the next one ((d + 1) modulo 6)")
    static void theNextDirectionOfEach() {
        for (int d = 0; d < 6; d++) {
            HexBilliards x = far(Table.CORNER_Q[d], Table.CORNER_R[d]);
            int next = d == 5 ? 0 : d + 1;
            int cell = Table.at(-Table.CORNER_Q[d] + 2 * Table.STEP_Q[next],
                -Table.CORNER_R[d] + 2 * Table.STEP_R[next]);
            Check.due("direction " + d + " turned on", x.would(0, d, 11, 2, CELL), cell);
        }
    }

    /** The document's way, written a second time, turns wherever its cell ahead allows; it does always. */
    @Sentence(of = "A SHOT", says = "if the cell ahead is on the felt by that.")
    static void turnedOnEveryWay() {
        for (int cell = 0; cell <= 60; cell++) {
            HexBilliards x = far(0, 0);
            Model model = new Model();
            model.put(30, 7);
            model.setPots(0);
            model.set(0, 99);
            model.set(1, 100);
            x.move(0, cell);
            model.move(0, cell);
            for (int way = 0; way < 12; way++) {
                for (int strength = 11; strength < 51; strength++) {
                    Check.due("from " + cell + ", way " + way + ", strength " + strength,
                        x.would(0, way % 6, strength, 1 + way / 6, CELL),
                        model.would(0, way % 6, strength, 1 + way / 6, CELL));
                }
            }
        }
    }

    /** Steps grow one by one with the strength; were a bank behind a bank, banks would by two. */
    @Sentence(of = "A SHOT", says = "(Behind a bank the cell ahead is on the felt always.)")
    static void noTwoBanksInARow() {
        for (int cell = 0; cell <= 60; cell++) {
            for (int way = 0; way < 18; way++) {
                HexBilliards x = Table.shutWithBall(0, 0);
                x.move(0, cell);
                x.set(1, 100);
                int steps = 0;
                int banks = 0;
                for (int strength = 10; strength < 250; strength++) {
                    int more = x.would(0, way % 6, strength, way / 6, STEPS) - steps;
                    int moreBanks = x.would(0, way % 6, strength, way / 6, BANKS) - banks;
                    Check.holds("from " + cell + ", way " + way + ", strength " + strength + ": " + moreBanks
                        + " banks more on " + more + " steps more", more <= 1 && moreBanks <= more);
                    steps += more;
                    banks += moreBanks;
                }
            }
        }
    }

    // ---- hits

    @Sentence(of = "A SHOT", says = "if a ball is on the cell ahead, that is a hit: this ball stays where it is")
    static void aHitBallStaysWhereItIs() {
        HexBilliards x = Table.shutWithBall(0, 0);
        x.put(Table.at(2, 0), 1);
        Check.due("no hit with a cell between", x.would(0, 0, 11, 0, HITS), 0);
        Check.due("a step to before it", x.would(0, 0, 11, 0, CELL), 31);
        Check.due("a hit from beside it", x.would(0, 0, 12, 0, HITS), 1);
        Check.due("it stays before it", x.would(0, 0, 12, 0, CELL), 31);
        Check.due("the hit is no step", x.would(0, 0, 12, 0, STEPS), 1);
        x.shoot(0, 0, 0, 15, 0);
        Check.due("the ball that hit", x.ofCell(31, 2), 0);
        Check.due("hits that it gave", x.ball(0, 4), 1);
        Check.due("hits that the other one gave", x.ball(1, 4), 0);
    }

    /** 1.5 at a hit of 70: 1.05, one step. */
    @Sentence(of = "A SHOT", says = "the other one goes on in its place, in the same direction")
    static void theOtherOneGoesOn() {
        for (int d = 0; d < 6; d++) {
            HexBilliards x = Table.shutWithBall(0, 0);
            x.put(Table.besideMiddle(d), 1);
            x.put(60 - Table.besideMiddle(d), 1);
            x.shoot(0, 0, d, 15, 0);
            Check.due("direction " + d, x.ball(1, 0), Table.at(2 * Table.STEP_Q[d], 2 * Table.STEP_R[d]));
            Check.due("its step", x.ball(1, 2), 1);
            Check.due("the ball that hit it", x.ball(0, 0), 30);
            Check.due("the ball behind", x.ball(2, 2), 0);
        }
        HexBilliards row = Table.shutWithBall(-1, 0);
        row.put(30, 1);
        row.put(31, 1);
        // 2.1 -> 1.47 -> 1.029: one step
        row.shoot(0, 0, 0, 21, 0);
        Check.due("three in a row: the last one moves", row.ball(2, 0), 32);
        Check.due("the one in the middle gave a hit", row.ball(1, 4), 1);
    }

    @Sentence(of = "A SHOT", says = "with the speed * ((float) of the setting 2 / 100.0f)")
    static void speedBehindAHit() {
        HexBilliards x = Table.shutWithBall(0, 0);
        x.put(31, 1);
        Check.due("at 70", x.speedLeft(0, 0, 13, 0), 1.3f * (70.0f / 100.0f));
        x.set(2, 50);
        Check.due("at 50", x.speedLeft(0, 0, 19, 0), 1.9f * (50.0f / 100.0f));
        x.set(2, 99);
        Check.due("at 99, and a step", x.speedLeft(0, 0, 11, 0), 1.1f * (99.0f / 100.0f) * (90.0f / 100.0f));
    }

    /** From corner 0 into it and back at a ball beside it, which banks at corner 3 then. */
    @Sentence(of = "A SHOT", says = "without spin and with 0 thirds")
    static void theOtherOneHasNoSpin() {
        for (int spin = 0; spin <= 2; spin++) {
            HexBilliards x = far(4, 0);
            x.set(2, 99);
            x.put(Table.at(3, 0), 1);
            x.shoot(0, 0, 0, 11, spin);
            Check.due("spin " + spin + ", its banks", x.ball(1, 3), 1);
            Check.due("spin " + spin + ", its steps", x.ball(1, 2), 9);
            Check.due("spin " + spin, x.ball(1, 0), Table.at(-2, 0));
        }
        for (int cell = 0; cell <= 60; cell++) {
            for (int d = 0; d < 6; d++) {
                sameWithEachSpin(cell, d);
            }
        }
    }

    /** A shot that begins with a hit is the same with each spin, however often the other one banks. */
    private static void sameWithEachSpin(int cell, int direction) {
        HexBilliards x = far(0, 0);
        x.move(0, cell);
        if (x.would(0, direction, 10, 0, BANKS) == 0) {
            x.put(x.would(0, direction, 10, 0, CELL), 1);
            for (int what = 0; what <= 5; what++) {
                String shot = "from " + cell + ", direction " + direction + ", what " + what;
                int without = x.would(0, direction, 50, 0, what);
                Check.due(shot + ", spin 1", x.would(0, direction, 50, 1, what), without);
                Check.due(shot + ", spin 2", x.would(0, direction, 50, 2, what), without);
            }
        }
    }

    // ---- steps and pots

    @Sentence(of = "A SHOT", says = "otherwise the ball makes a step: it is on that cell")
    static void aStepInEachDirection() {
        for (int d = 0; d < 6; d++) {
            HexBilliards x = Table.withBall(0, 0);
            x.shoot(0, 0, d, 10, 0);
            Check.due("direction " + d, x.ball(0, 0), Table.besideMiddle(d));
            Check.due("the ball there", x.ofCell(Table.besideMiddle(d), 2), 0);
            Check.due("the cell that it left", x.ofCell(30, 2), HexBilliards.NONE);
            Check.due("steps", x.ball(0, 2), 1);
        }
    }

    @Sentence(of = "A SHOT", says = "the speed becomes speed * ((float) of the setting 0 / 100.0f)")
    static void speedBehindAStep() {
        HexBilliards x = Table.shutWithBall(0, 0);
        Check.due("at 90", x.speedLeft(0, 0, 11, 0), 1.1f * (90.0f / 100.0f));
        x.set(0, 50);
        Check.due("at 50", x.speedLeft(0, 0, 19, 0), 1.9f * (50.0f / 100.0f));
        x.set(0, 99);
        Check.due("at 99", x.speedLeft(0, 0, 10, 0), 1.0f * (99.0f / 100.0f));
    }

    @Sentence(of = "A SHOT", says = "If the cell is a corner whose pot is open, the ball is gone, and the shot ends.")
    static void goneAtAnOpenPotAlone() {
        for (int d = 0; d < 6; d++) {
            HexBilliards x = Table.withBall(0, 0);
            Check.due("3 steps", x.would(0, d, 13, 0, GONE), HexBilliards.NONE);
            Check.due("4 steps, no speed left", x.would(0, d, 14, 0, GONE), 0);
            Check.due("with all speed left", x.would(0, d, 999, 2, GONE), 0);
            Check.due("the shot ends there", x.would(0, d, 999, 2, STEPS), 4);
            Check.due("without a bank", x.would(0, d, 999, 2, BANKS), 0);
            x.setPots(63 - (1 << d));
            Check.due("shut alone, 4 steps", x.would(0, d, 14, 0, GONE), HexBilliards.NONE);
            Check.due("shut alone, it lies there", x.would(0, d, 14, 0, CELL), Table.corner(d));
            Check.due("shut alone, into the one across", x.would(0, d, 999, 0, STEPS), 12);
            x.setPots(1 << d);
            Check.due("open alone", x.would(0, d, 14, 0, GONE), 0);
        }
        HexBilliards wall = Table.withBall(2, -4);
        Check.due("along a wall", wall.shoot(0, 0, 0, 999, 0), 7);
        Check.due("its steps are its last", wall.count(0), 0);
    }

    @Sentence(of = "A SHOT", says = "(A ball that lies in a corner is gone by a step to one alone, not by being hit there.)")
    static void notGoneByAHitInACorner() {
        for (int d = 0; d < 6; d++) {
            HexBilliards x = Table.withBall(3 * Table.STEP_Q[d], 3 * Table.STEP_R[d]);
            x.put(Table.corner(d), 1);
            Check.due("a hit, no speed left", x.would(0, d, 14, 0, GONE), HexBilliards.NONE);
            Check.due("the one in the corner moves last", x.would(0, d, 14, 0, LAST), 1);
            // 1.6 -> hit 1.12 -> bank 0.896
            Check.due("a hit and a bank", x.would(0, d, 16, 0, GONE), HexBilliards.NONE);
            // 2.0 -> hit 1.4 -> bank 1.12 -> hit 0.784
            Check.due("a hit, a bank, a hit", x.would(0, d, 20, 0, HITS), 2);
            Check.due("none is gone", x.would(0, d, 20, 0, GONE), HexBilliards.NONE);
            Check.due("a shot from the corner into it", x.would(1, d, 12, 0, GONE), HexBilliards.NONE);
            Check.due("shoot", x.shoot(0, 0, d, 20, 0), 0);
            Check.due("it lies there", x.ball(1, 0), Table.corner(d));
            x.takeOff(0);
            // 50 -> bank 40 -> 8 steps to the corner across
            Check.due("by a step to the corner across", x.shoot(1, 1, d, 500, 0), 1);
        }
    }
}
