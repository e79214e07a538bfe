/** Promises 12 to 14: undo, keep and restore. */
public final class HistoryTest {
    public static void main(String[] args) {
        undo();
        oldestIsDropped();
        whatIsNoState();
        undoBringsAllBack();
        undoOfShots();
        keepAndRestore();
        snapshotAndHistory();
        Check.end("HistoryTest");
    }

    private static void undo() {
        HexBilliards x = new HexBilliards();
        Check.due("12: nothing to undo", x.undo(), HexBilliards.NONE);
        x.put(5, 5);
        x.put(6, 6);
        Check.due("12: undo()", x.undo(), 1);
        Check.due("12: the second is not there", x.ofCell(6, 2), HexBilliards.NONE);
        Check.due("12: the first is", x.ofCell(5, 2), 0);
        Check.due("12: balls so far are of the state", x.count(1), 1);
        Check.due("12: undo() is no act", x.undo(), 0);
        Check.due("12: nothing more", x.undo(), HexBilliards.NONE);
        Check.due("12: put again", x.put(6, 6), 0);
        Check.due("12: count(14)", x.count(14), 1);
    }

    private static void oldestIsDropped() {
        HexBilliards x = new HexBilliards();
        for (int i = 0; i < 7; i++) {
            x.put(i, 1);
            Check.due("12: states after put " + i, x.count(14), Math.min(i + 1, 4));
        }
        for (int left = 3; left >= 0; left--) {
            Check.due("12: undo()", x.undo(), left);
            Check.due("12: balls", x.count(0), 3 + left);
        }
        Check.due("12: the oldest are dropped", x.undo(), HexBilliards.NONE);
        Check.due("12: balls", x.count(0), 3);
    }

    private static void whatIsNoState() {
        HexBilliards x = new HexBilliards();
        x.put(5, 5);
        x.type('1');
        x.keep();
        x.undo();
        Check.due("12: the text is no part of a state", x.count(15), 1);
        Check.due("12: the snapshot is no part of a state", x.restore(), 1);
        x.type('2');
        x.restore();
        Check.due("14: the text stays", x.count(15), 2);
    }

    private static void undoBringsAllBack() {
        HexBilliards x = new HexBilliards();
        x.put(30, 5);
        x.put(32, 6);
        x.shoot(0, 0, 0, 300, 1);
        int[] counts = new int[14];
        for (int what = 0; what < 14; what++) {
            counts[what] = x.count(what);
        }
        int[] ball = new int[5];
        int left = x.ball(0, 0) == HexBilliards.UNKNOWN ? 1 : 0;
        for (int what = 0; what < 5; what++) {
            ball[what] = x.ball(left, what);
        }
        x.setPots(1);
        x.set(0, 77);
        x.shoot(x.count(2), left, 2, 500, 2);
        x.pass(x.count(2));
        for (int i = 0; i < 4; i++) {
            x.undo();
        }
        for (int what = 0; what < 14; what++) {
            Check.due("12: count(" + what + ")", x.count(what), counts[what]);
        }
        for (int what = 0; what < 5; what++) {
            Check.due("12: ball(" + left + ", " + what + ")", x.ball(left, what), ball[what]);
        }
        Check.due("12: the cell of the ball", x.ofCell(ball[0], 2), left);
    }

    /** A hit, a bank and a pot, each by a shot and taken back: what they changed is as it was. */
    private static void undoOfShots() {
        HexBilliards x = new HexBilliards();
        x.put(x.cell(4, -1), 3);
        x.put(x.cell(3, -1), 4);
        x.shoot(0, 0, 3, 10, 0);
        Check.due("12: a hit", x.ball(0, 4), 1);
        x.undo();
        Check.due("12: the hit undone", x.ball(0, 4), 0);
        Check.due("12: hits so far undone", x.count(9), 0);
        Check.due("12: the turn undone", x.count(2), 0);
        x.shoot(0, 0, 0, 12, 0);
        Check.due("12: a bank", x.ball(0, 3), 1);
        x.undo();
        Check.due("12: the bank undone", x.ball(0, 3), 0);
        Check.due("12: a pot", x.shoot(0, 0, 5, 10, 0), 3);
        x.undo();
        Check.due("12: the ball is back", x.ofCell(x.cell(4, -1), 2), 0);
        Check.due("12: its step undone", x.ball(0, 2), 0);
        Check.due("12: the score undone", x.count(3), 0);
        Check.due("12: the run undone", x.count(5), 0);
    }

    private static void keepAndRestore() {
        HexBilliards x = new HexBilliards();
        Check.due("14: no snapshot", x.restore(), HexBilliards.NONE);
        Check.due("14: NONE records nothing", x.count(14), 0);
        Check.due("13: of an empty felt", x.keep(), 0);
        Check.due("13: it is no act", x.count(14), 0);
        Check.due("14: restore() of an empty felt", x.restore(), 0);
        Check.due("14: it is an act", x.count(14), 1);
        x.put(5, 5);
        x.put(6, 6);
        x.put(7, 7);
        x.takeOff(1);
        Check.due("13: balls on the felt", x.keep(), 2);
        x.takeOff(0);
        x.takeOff(2);
        x.setPots(5);
        Check.due("14: balls on the felt then", x.restore(), 2);
        Check.due("14: where they were", x.ofCell(7, 2), 2);
        Check.due("14: the pots too", x.count(10), 63);
        x.takeOff(0);
        Check.due("14: the snapshot stays", x.restore(), 2);
        Check.due("14: as it was", x.ofCell(5, 2), 0);
        x.takeOff(0);
        Check.due("13: in place of the one that was", x.keep(), 1);
        x.put(20, 1);
        Check.due("14: the newer one", x.restore(), 1);
    }

    private static void snapshotAndHistory() {
        HexBilliards x = new HexBilliards();
        x.put(5, 5);
        x.keep();
        x.put(6, 6);
        Check.due("14: restore()", x.restore(), 1);
        Check.due("14: the history is no part of a state", x.count(14), 3);
        Check.due("14: undo() of restore()", x.undo(), 2);
        Check.due("14: the state before it", x.count(0), 2);
        Check.due("14: restore() without a change is an act too", x.restore(), 1);
        Check.due("14: and again", x.restore(), 1);
        Check.due("14: states", x.count(14), 4);
    }
}
