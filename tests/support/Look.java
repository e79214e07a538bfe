import java.util.ArrayList;
import java.util.List;
import java.util.function.Consumer;

/** All that an object tells of itself, so that two looks can be compared. */
final class Look {
    private static final int HISTORY_COUNT = 14;
    private static final int TEXT_COUNT = 15;

    private Look() {
    }

    /** The state alone: neither the history, nor the text. */
    static List<Integer> atState(HexBilliards x) {
        List<Integer> look = new ArrayList<>();
        for (int what = 0; what < HISTORY_COUNT; what++) {
            look.add(x.count(what));
        }
        int balls = x.count(1);
        for (int ball = 0; ball < balls; ball++) {
            for (int what = 0; what < 5; what++) {
                look.add(x.ball(ball, what));
            }
        }
        return look;
    }

    /** All of it, also what lies in the history, the snapshot and the text; this uses the object up. */
    static List<Integer> through(HexBilliards x) {
        List<Integer> look = atState(x);
        look.add(x.count(HISTORY_COUNT));
        look.add(x.count(TEXT_COUNT));
        for (int i = 0; i < 5; i++) {
            look.add(x.undo());
            look.addAll(atState(x));
        }
        look.add(x.restore());
        look.add(x.count(0));
        look.add(x.count(1));
        look.add(x.putAll());
        look.add(x.count(0));
        return look;
    }

    /** An act records one state, the one that was before it, and undo() brings that back. */
    static void act(String call, HexBilliards x, Consumer<HexBilliards> made) {
        int states = Math.min(x.count(HISTORY_COUNT) + 1, 4);
        List<Integer> before = atState(x);
        made.accept(x);
        Check.due(call + " records one state", x.count(HISTORY_COUNT), states);
        Check.due(call + " can be undone", x.undo(), states - 1);
        Check.holds(call + " is undone, all as before", atState(x).equals(before));
    }

    /** A call that is refused leaves an object just as one that it was never made on. */
    static void unchanged(String call, Consumer<HexBilliards> before, Consumer<HexBilliards> refused) {
        HexBilliards with = new HexBilliards();
        HexBilliards without = new HexBilliards();
        before.accept(with);
        before.accept(without);
        refused.accept(with);
        Check.holds(call + " changes nothing", through(with).equals(through(without)));
    }
}
