/** Promises 1, 2 and 4 to 7: a new object, and the balls, pots and settings that are set by hand. */
public final class BallsTest {
    public static void main(String[] args) {
        newObject();
        put();
        putUntilFull();
        move();
        takeOff();
        setPots();
        set();
        Check.end("BallsTest");
    }

    private static void newObject() {
        HexBilliards x = new HexBilliards();
        int[] first = {0, 0, 0, 0, 0, 0, 0, 0, 0, 0, 63, 90, 80, 70, 0, 0};
        for (int what = 0; what < first.length; what++) {
            Check.due("1: count(" + what + ")", x.count(what), first[what]);
        }
        for (int cell = 0; cell <= 60; cell++) {
            Check.due("1: ofCell(" + cell + ", 2)", x.ofCell(cell, 2), HexBilliards.NONE);
        }
        Check.due("1: undo()", x.undo(), HexBilliards.NONE);
        Check.due("1: restore()", x.restore(), HexBilliards.NONE);
        HexBilliards other = new HexBilliards();
        other.put(3, 3);
        other.type('1');
        Check.due("1: two objects share no balls", x.count(0), 0);
        Check.due("1: two objects share no text", x.count(15), 0);
    }

    private static void put() {
        HexBilliards x = new HexBilliards();
        Check.due("2: put(0, 1)", x.put(0, 1), 0);
        Check.due("2: put(60, 20)", x.put(60, 20), 1);
        Check.due("2: ofCell(60, 2)", x.ofCell(60, 2), 1);
        Check.due("2: ball(1, 0)", x.ball(1, 0), 60);
        Check.due("2: ball(1, 1)", x.ball(1, 1), 20);
        Check.due("2: count(14)", x.count(14), 2);
        int[] noCells = {-1, 61, Integer.MIN_VALUE, Integer.MAX_VALUE};
        for (int cell : noCells) {
            Check.due("2: put(" + cell + ", 1)", x.put(cell, 1), HexBilliards.UNKNOWN);
            Check.due("2: the cell first, put(" + cell + ", 0)", x.put(cell, 0), HexBilliards.UNKNOWN);
        }
        int[] noValues = {0, 21, -1, Integer.MIN_VALUE, Integer.MAX_VALUE};
        for (int value : noValues) {
            Check.due("2: put(5, " + value + ")", x.put(5, value), HexBilliards.BAD_VALUE);
            Check.due("2: the value before the ball, put(0, " + value + ")", x.put(0, value), HexBilliards.BAD_VALUE);
        }
        Check.due("2: put(0, 1) again", x.put(0, 1), HexBilliards.NOT_POSSIBLE);
        Check.due("2: errors change nothing", x.count(1), 2);
        Check.due("2: errors record nothing", x.count(14), 2);
    }

    private static void putUntilFull() {
        HexBilliards x = new HexBilliards();
        for (int i = 0; i < 12; i++) {
            Check.due("2: put(" + i + ", 1)", x.put(i, 1), i);
        }
        Check.due("2: a 13th", x.put(12, 1), HexBilliards.FULL);
        Check.due("2: the ball on the cell before the room", x.put(3, 1), HexBilliards.NOT_POSSIBLE);
        x.takeOff(3);
        Check.due("2: 12 balls ever, also when one is gone", x.put(3, 1), HexBilliards.FULL);
        Check.due("2: count(0)", x.count(0), 11);
        Check.due("2: count(1)", x.count(1), 12);
    }

    private static void move() {
        HexBilliards x = new HexBilliards();
        x.put(30, 7);
        x.put(31, 8);
        Check.due("4: move(0, 34)", x.move(0, 34), 30);
        Check.due("4: a ball moved by hand onto an open pot stays", x.ball(0, 0), 34);
        Check.due("4: it leaves its cell", x.ofCell(30, 2), HexBilliards.NONE);
        Check.due("4: it is on the other", x.ofCell(34, 2), 0);
        Check.due("4: moved by hand is no step", x.ball(0, 2), 0);
        Check.due("4: move(0, 0)", x.move(0, 0), 34);
        Check.due("4: move(0, 60)", x.move(0, 60), 0);
        Check.due("4: count(14)", x.count(14), 4);
        x.undo();
        Check.due("4: undone", x.ball(0, 0), 0);
        Check.due("4: the other's cell", x.move(0, 31), HexBilliards.NOT_POSSIBLE);
        Check.due("4: its own cell", x.move(0, 0), HexBilliards.NONE);
        int[] noBalls = {-1, 2, 11, 12, Integer.MIN_VALUE, Integer.MAX_VALUE};
        for (int ball : noBalls) {
            Check.due("4: move(" + ball + ", 5)", x.move(ball, 5), HexBilliards.UNKNOWN);
        }
        int[] noCells = {-1, 61, Integer.MIN_VALUE, Integer.MAX_VALUE};
        for (int cell : noCells) {
            Check.due("4: move(0, " + cell + ")", x.move(0, cell), HexBilliards.UNKNOWN);
        }
        Check.due("4: neither an error nor NONE records", x.count(14), 3);
    }

    private static void takeOff() {
        HexBilliards x = new HexBilliards();
        x.put(30, 7);
        x.put(31, 8);
        Check.due("5: takeOff(0)", x.takeOff(0), 30);
        Check.due("5: the cell is free", x.ofCell(30, 2), HexBilliards.NONE);
        Check.due("5: nobody gets its value", x.count(3) + x.count(4), 0);
        Check.due("5: it is not gone by a shot", x.count(7), 0);
        Check.due("5: it is an act", x.count(14), 3);
        Check.due("5: takeOff(0) again", x.takeOff(0), HexBilliards.UNKNOWN);
        Check.due("5: ball(0, 0)", x.ball(0, 0), HexBilliards.UNKNOWN);
        int[] noBalls = {-1, 2, 12, Integer.MIN_VALUE, Integer.MAX_VALUE};
        for (int ball : noBalls) {
            Check.due("5: takeOff(" + ball + ")", x.takeOff(ball), HexBilliards.UNKNOWN);
        }
        Check.due("5: its number is not given again", x.put(30, 1), 2);
        x.undo();
        x.undo();
        Check.due("5: undone", x.ball(0, 0), 30);
    }

    private static void setPots() {
        HexBilliards x = new HexBilliards();
        Check.due("6: setPots(63)", x.setPots(63), HexBilliards.NONE);
        Check.due("6: setPots(0)", x.setPots(0), 63);
        Check.due("6: setPots(0) again", x.setPots(0), HexBilliards.NONE);
        int[] noSets = {-1, 64, Integer.MIN_VALUE, Integer.MAX_VALUE};
        for (int open : noSets) {
            Check.due("6: setPots(" + open + ")", x.setPots(open), HexBilliards.BAD_VALUE);
        }
        Check.due("6: NONE and errors record nothing", x.count(14), 1);
        x.put(34, 5);
        Check.due("6: setPots(1)", x.setPots(1), 0);
        Check.due("6: count(10)", x.count(10), 1);
        Check.due("6: a ball that lies in the corner stays", x.ofCell(34, 2), 0);
        x.undo();
        Check.due("6: undone", x.count(10), 0);
        eachPotAlone();
    }

    /** From the middle, the shot in direction d goes to corner d. */
    private static void eachPotAlone() {
        for (int open = 0; open < 6; open++) {
            HexBilliards x = new HexBilliards();
            x.put(30, 4);
            x.setPots(1 << open);
            for (int d = 0; d < 6; d++) {
                int gone = d == open ? 0 : HexBilliards.NONE;
                Check.due("6: pot " + open + ", direction " + d, x.would(0, d, 16, 0, 3), gone);
            }
        }
    }

    private static void set() {
        HexBilliards x = new HexBilliards();
        int[] first = {90, 80, 70};
        int[] highest = {99, 100, 99};
        for (int which = 0; which < 3; which++) {
            String of = "7: set(" + which + ", ";
            Check.due(of + "first)", x.set(which, first[which]), HexBilliards.NONE);
            Check.due(of + "49)", x.set(which, 49), HexBilliards.BAD_VALUE);
            Check.due(of + "above)", x.set(which, highest[which] + 1), HexBilliards.BAD_VALUE);
            Check.due(of + "MIN)", x.set(which, Integer.MIN_VALUE), HexBilliards.BAD_VALUE);
            Check.due(of + "MAX)", x.set(which, Integer.MAX_VALUE), HexBilliards.BAD_VALUE);
            Check.due("7: count(14) before", x.count(14), which);
            Check.due(of + "highest)", x.set(which, highest[which]), first[which]);
            Check.due(of + "highest) again", x.set(which, highest[which]), HexBilliards.NONE);
            Check.due("7: count(" + (11 + which) + ")", x.count(11 + which), highest[which]);
        }
        int[] noSettings = {-1, 3, Integer.MIN_VALUE, Integer.MAX_VALUE};
        for (int which : noSettings) {
            Check.due("7: set(" + which + ", 60)", x.set(which, 60), HexBilliards.BAD_VALUE);
        }
        Check.due("7: set(1, 50)", x.set(1, 50), 100);
        Check.due("7: set(0, 50)", x.set(0, 50), 99);
        x.undo();
        Check.due("7: undone", x.count(11), 99);
        Check.due("7: set(2, 50)", x.set(2, 50), 99);
    }
}
