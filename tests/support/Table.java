import java.util.function.IntUnaryOperator;

/** Felts that tests begin with, and arguments that are out of a range. */
final class Table {
    static final int[] STEP_Q = {1, 1, 0, -1, -1, 0};
    static final int[] STEP_R = {0, -1, -1, 0, 1, 1};
    static final int[] CORNER_Q = {4, 4, 0, -4, -4, 0};
    static final int[] CORNER_R = {0, -4, -4, 0, 4, 4};

    private Table() {
    }

    /** The number of a cell, counted as the document tells it. */
    static int at(int q, int r) {
        int number = 0;
        for (int row = -4; row <= 4; row++) {
            for (int column = -4; column <= 4; column++) {
                if (row == r && column == q) {
                    return number;
                }
                if (Math.abs(row + column) <= 4) {
                    number++;
                }
            }
        }
        throw new IllegalArgumentException("(" + q + ", " + r + ") is no cell");
    }

    static int besideMiddle(int direction) {
        return at(STEP_Q[direction], STEP_R[direction]);
    }

    static int corner(int corner) {
        return at(CORNER_Q[corner], CORNER_R[corner]);
    }

    /** Ball 0, of the value 7. */
    static HexBilliards withBall(int q, int r) {
        HexBilliards x = new HexBilliards();
        x.put(at(q, r), 7);
        return x;
    }

    /** Ball 0, of the value 7, and all pots shut. */
    static HexBilliards shutWithBall(int q, int r) {
        HexBilliards x = withBall(q, r);
        x.setPots(0);
        return x;
    }

    /** Balls 0 to 11 on the cells 0 to 11, of the values 1 to 12. */
    static HexBilliards withAllBalls() {
        HexBilliards x = new HexBilliards();
        for (int i = 0; i < 12; i++) {
            x.put(i, i + 1);
        }
        return x;
    }

    static void type(HexBilliards x, String text) {
        for (int i = 0; i < text.length(); i++) {
            x.type(text.charAt(i));
        }
    }

    static HexBilliards withText(String text) {
        HexBilliards x = new HexBilliards();
        type(x, text);
        return x;
    }

    /** The numbers just outside of a range, and those farthest from it. */
    static int[] outside(int low, int high) {
        return new int[] {low - 1, high + 1, Integer.MIN_VALUE, Integer.MAX_VALUE};
    }

    /** Checks that a call is refused with every argument outside of a range. */
    static void refused(String call, int low, int high, int error, IntUnaryOperator made) {
        for (int argument : outside(low, high)) {
            Check.due(call + " with " + argument, made.applyAsInt(argument), error);
        }
    }
}
