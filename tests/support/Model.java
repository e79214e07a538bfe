import java.util.ArrayList;
import java.util.List;
import java.util.Map;
import java.util.TreeMap;
import java.util.regex.Matcher;
import java.util.regex.Pattern;

/**
 * The document once more, written another way: cells by coordinates, banks as mirrored vectors,
 * texts by a pattern, states as whole copies. What the class answers is compared with this.
 */
public final class Model {
    static final int UNKNOWN = -1;
    static final int BAD_VALUE = -2;
    static final int FULL = -3;
    static final int NOT_POSSIBLE = -4;
    static final int NONE = -5;

    private static final int[][] STEPS = {{1, 0}, {1, -1}, {0, -1}, {-1, 0}, {-1, 1}, {0, 1}};
    private static final Pattern BALLS = Pattern.compile(
        "((60|[1-5][0-9]|[0-9]):(20|1[0-9]|[1-9]))(;(60|[1-5][0-9]|[0-9]):(20|1[0-9]|[1-9]))*");
    private static final List<int[]> CELLS = new ArrayList<>();

    static {
        for (int r = -4; r <= 4; r++) {
            for (int q = -4; q <= 4; q++) {
                if (Math.abs(q + r) <= 4) {
                    CELLS.add(new int[] {q, r});
                }
            }
        }
    }

    private static final class Ball {
        int cell;
        int value;
        int steps;
        int banks;
        int hits;

        Ball copy() {
            Ball b = new Ball();
            b.cell = cell;
            b.value = value;
            b.steps = steps;
            b.banks = banks;
            b.hits = hits;
            return b;
        }
    }

    private static final class State {
        Map<Integer, Ball> balls = new TreeMap<>();
        int made;
        int turn;
        int run;
        int[] scores = new int[2];
        int shots;
        int gone;
        int banks;
        int hits;
        int pots = 63;
        int[] settings = {90, 80, 70};

        State copy() {
            State s = new State();
            for (Map.Entry<Integer, Ball> e : balls.entrySet()) {
                s.balls.put(e.getKey(), e.getValue().copy());
            }
            s.made = made;
            s.turn = turn;
            s.run = run;
            s.scores = scores.clone();
            s.shots = shots;
            s.gone = gone;
            s.banks = banks;
            s.hits = hits;
            s.pots = pots;
            s.settings = settings.clone();
            return s;
        }
    }

    private static final class Outcome {
        State after;
        int steps;
        int banks;
        int hits;
        int gone = NONE;
        int won;
        int last;
        float speed;
    }

    private State now = new State();
    private State kept;
    private final List<State> past = new ArrayList<>();
    private String text = "";

    private void record() {
        past.add(now.copy());
        if (past.size() > 4) {
            past.remove(0);
        }
    }

    private static boolean in(int x, int low, int high) {
        return x >= low && x <= high;
    }

    private static boolean onFelt(long q, long r) {
        return Math.abs(q) <= 4 && Math.abs(r) <= 4 && Math.abs(q + r) <= 4;
    }

    private static Integer ballOn(State s, int cell) {
        for (Map.Entry<Integer, Ball> e : s.balls.entrySet()) {
            if (e.getValue().cell == cell) {
                return e.getKey();
            }
        }
        return null;
    }

    private static int add(State s, int cell, int value) {
        if (!in(cell, 0, 60)) {
            return UNKNOWN;
        }
        if (!in(value, 1, 20)) {
            return BAD_VALUE;
        }
        if (ballOn(s, cell) != null) {
            return NOT_POSSIBLE;
        }
        if (s.made == 12) {
            return FULL;
        }
        Ball b = new Ball();
        b.cell = cell;
        b.value = value;
        s.balls.put(s.made, b);
        return s.made++;
    }

    private static int directionOf(int dq, int dr) {
        for (int d = 0; d < 6; d++) {
            if (STEPS[d][0] == dq && STEPS[d][1] == dr) {
                return d;
            }
        }
        throw new IllegalStateException("no direction " + dq + " " + dr);
    }

    /** With s = -q - r, a wall mirrors a vector by minus and by a swap of the other two parts. */
    private static int banked(int q, int r, int d) {
        int dq = STEPS[d][0];
        int dr = STEPS[d][1];
        int ds = -dq - dr;
        boolean wallQ = Math.abs(q + dq) > 4;
        boolean wallR = Math.abs(r + dr) > 4;
        boolean wallS = Math.abs(q + dq + r + dr) > 4;
        int walls = (wallQ ? 1 : 0) + (wallR ? 1 : 0) + (wallS ? 1 : 0);
        if (walls == 2) {
            return directionOf(-dq, -dr);
        }
        if (walls != 1) {
            throw new IllegalStateException("walls " + walls);
        }
        if (wallQ) {
            return directionOf(-dq, -ds);
        }
        return wallR ? directionOf(-ds, -dr) : directionOf(-dr, -dq);
    }

    private static Outcome play(State before, int ball, int direction, int strength, int spin) {
        Outcome o = new Outcome();
        State s = before.copy();
        o.after = s;
        o.last = ball;
        o.speed = (float) strength / 10.0f;
        int d = direction;
        int spinNow = spin;
        int thirds = 0;
        while (o.speed >= 1.0f) {
            Ball b = s.balls.get(o.last);
            int[] at = CELLS.get(b.cell);
            int q = at[0] + STEPS[d][0];
            int r = at[1] + STEPS[d][1];
            if (!onFelt(q, r)) {
                o.banks++;
                b.banks++;
                s.banks++;
                o.speed = o.speed * ((float) s.settings[1] / 100.0f);
                d = banked(at[0], at[1], d);
                if (!onFelt(at[0] + STEPS[d][0], at[1] + STEPS[d][1])) {
                    throw new IllegalStateException("behind a bank a wall");
                }
                thirds += spinNow;
                if (thirds >= 3) {
                    thirds -= 3;
                    int next = d == 5 ? 0 : d + 1;
                    if (onFelt(at[0] + STEPS[next][0], at[1] + STEPS[next][1])) {
                        d = next;
                    }
                }
                continue;
            }
            Integer other = ballOn(s, number(q, r));
            if (other != null) {
                o.hits++;
                b.hits++;
                s.hits++;
                o.speed = o.speed * ((float) s.settings[2] / 100.0f);
                o.last = other;
                spinNow = 0;
                thirds = 0;
                continue;
            }
            o.steps++;
            b.steps++;
            b.cell = number(q, r);
            o.speed = o.speed * ((float) s.settings[0] / 100.0f);
            int corner = cornerAt(q, r);
            if (corner >= 0 && (s.pots & 1 << corner) != 0) {
                o.gone = o.last;
                o.won = b.value;
                s.balls.remove(o.last);
                break;
            }
        }
        return o;
    }

    private static int number(int q, int r) {
        for (int c = 0; c < CELLS.size(); c++) {
            if (CELLS.get(c)[0] == q && CELLS.get(c)[1] == r) {
                return c;
            }
        }
        return NONE;
    }

    private static int cornerAt(int q, int r) {
        for (int d = 0; d < 6; d++) {
            if (q == 4 * STEPS[d][0] && r == 4 * STEPS[d][1]) {
                return d;
            }
        }
        return -1;
    }

    private static boolean shotInRange(int direction, int strength, int spin) {
        return in(direction, 0, 5) && in(strength, 10, 999) && in(spin, 0, 2);
    }

    public int put(int cell, int value) {
        State s = now.copy();
        int answer = add(s, cell, value);
        if (answer >= 0) {
            record();
            now = s;
        }
        return answer;
    }

    public static int fault(String text) {
        for (int end = 1; end <= text.length(); end++) {
            Matcher m = BALLS.matcher(text.substring(0, end));
            if (!m.matches() && !m.hitEnd()) {
                return end - 1;
            }
        }
        return BALLS.matcher(text).matches() ? -1 : text.length();
    }

    public int putAll() {
        int fault = fault(text);
        if (fault >= 0) {
            return -100 - fault;
        }
        State s = now.copy();
        String[] parts = text.split(";");
        for (String part : parts) {
            String[] sides = part.split(":");
            int answer = add(s, Integer.parseInt(sides[0]), Integer.parseInt(sides[1]));
            if (answer < 0) {
                return answer;
            }
        }
        record();
        now = s;
        return parts.length;
    }

    public int move(int ball, int cell) {
        Ball b = now.balls.get(ball);
        if (b == null || !in(cell, 0, 60)) {
            return UNKNOWN;
        }
        Integer there = ballOn(now, cell);
        if (there != null) {
            return there == ball ? NONE : NOT_POSSIBLE;
        }
        record();
        int before = b.cell;
        b.cell = cell;
        return before;
    }

    public int takeOff(int ball) {
        Ball b = now.balls.get(ball);
        if (b == null) {
            return UNKNOWN;
        }
        record();
        now.balls.remove(ball);
        return b.cell;
    }

    public int setPots(int open) {
        if (!in(open, 0, 63)) {
            return BAD_VALUE;
        }
        if (open == now.pots) {
            return NONE;
        }
        record();
        int before = now.pots;
        now.pots = open;
        return before;
    }

    public int set(int which, int value) {
        if (!in(which, 0, 2) || !in(value, 50, which == 1 ? 100 : 99)) {
            return BAD_VALUE;
        }
        if (now.settings[which] == value) {
            return NONE;
        }
        record();
        int before = now.settings[which];
        now.settings[which] = value;
        return before;
    }

    public int shoot(int player, int ball, int direction, int strength, int spin) {
        if (!in(player, 0, 1) || !now.balls.containsKey(ball)) {
            return UNKNOWN;
        }
        if (!shotInRange(direction, strength, spin)) {
            return BAD_VALUE;
        }
        if (now.turn != player) {
            return NOT_POSSIBLE;
        }
        record();
        Outcome o = play(now, ball, direction, strength, spin);
        now = o.after;
        now.shots++;
        if (o.gone == NONE) {
            now.run = 0;
            now.turn = player == 0 ? 1 : 0;
        } else {
            now.run++;
            now.gone++;
            now.scores[player] += o.won;
        }
        return o.won;
    }

    public int pass(int player) {
        if (!in(player, 0, 1)) {
            return UNKNOWN;
        }
        if (now.turn != player) {
            return NOT_POSSIBLE;
        }
        record();
        int before = now.run;
        now.run = 0;
        now.turn = player == 0 ? 1 : 0;
        return before;
    }

    public int type(char character) {
        if (text.length() == 60) {
            return FULL;
        }
        text += character;
        return text.length();
    }

    public int clearText() {
        int before = text.length();
        text = "";
        return before;
    }

    public int undo() {
        if (past.isEmpty()) {
            return NONE;
        }
        now = past.remove(past.size() - 1);
        return past.size();
    }

    public int keep() {
        kept = now.copy();
        return now.balls.size();
    }

    public int restore() {
        if (kept == null) {
            return NONE;
        }
        record();
        now = kept.copy();
        return now.balls.size();
    }

    public int cell(int q, int r) {
        return onFelt(q, r) ? number(q, r) : NONE;
    }

    public int ofCell(int cell, int what) {
        if (!in(cell, 0, 60)) {
            return UNKNOWN;
        }
        if (!in(what, 0, 4)) {
            return BAD_VALUE;
        }
        int q = CELLS.get(cell)[0];
        int r = CELLS.get(cell)[1];
        if (what < 2) {
            return 4 + (what == 0 ? q : r);
        }
        if (what == 2) {
            Integer b = ballOn(now, cell);
            return b == null ? NONE : b;
        }
        if (what == 3) {
            int corner = cornerAt(q, r);
            return corner < 0 ? NONE : corner;
        }
        int beside = 0;
        for (int[] other : CELLS) {
            int dq = Math.abs(other[0] - q);
            int dr = Math.abs(other[1] - r);
            int ds = Math.abs(other[0] + other[1] - q - r);
            beside += dq + dr + ds == 2 ? 1 : 0;
        }
        return beside;
    }

    public int ball(int ball, int what) {
        Ball b = now.balls.get(ball);
        if (b == null) {
            return UNKNOWN;
        }
        if (!in(what, 0, 4)) {
            return BAD_VALUE;
        }
        return new int[] {b.cell, b.value, b.steps, b.banks, b.hits}[what];
    }

    public int would(int ball, int direction, int strength, int spin, int what) {
        if (!now.balls.containsKey(ball)) {
            return UNKNOWN;
        }
        if (!shotInRange(direction, strength, spin) || !in(what, 0, 5)) {
            return BAD_VALUE;
        }
        Outcome o = play(now, ball, direction, strength, spin);
        int cell = o.gone == ball ? NONE : o.after.balls.get(ball).cell;
        return new int[] {o.steps, o.banks, o.hits, o.gone, cell, o.last}[what];
    }

    public float speedLeft(int ball, int direction, int strength, int spin) {
        if (!now.balls.containsKey(ball) || !shotInRange(direction, strength, spin)) {
            return -1.0f;
        }
        return play(now, ball, direction, strength, spin).speed;
    }

    public int along(int cell, int direction, int steps, boolean back) {
        if (!in(cell, 0, 60)) {
            return UNKNOWN;
        }
        if (!in(direction, 0, 5) || !in(steps, 0, 99)) {
            return BAD_VALUE;
        }
        int q = CELLS.get(cell)[0];
        int r = CELLS.get(cell)[1];
        int d = direction;
        for (int i = 0; i < (back ? 2 * steps : steps); i++) {
            if (i == steps) {
                d = directionOf(-STEPS[d][0], -STEPS[d][1]);
            }
            if (!onFelt(q + STEPS[d][0], r + STEPS[d][1])) {
                d = banked(q, r, d);
            }
            q += STEPS[d][0];
            r += STEPS[d][1];
        }
        return number(q, r);
    }

    public int best(int strength, int spin, int what) {
        if (!in(strength, 10, 999) || !in(spin, 0, 2) || !in(what, 0, 2)) {
            return BAD_VALUE;
        }
        int[] found = {NONE, NONE, 0};
        for (int ball : now.balls.keySet()) {
            for (int d = 0; d < 6; d++) {
                Outcome o = play(now, ball, d, strength, spin);
                if (o.won > found[2]) {
                    found = new int[] {ball, d, o.won};
                }
            }
        }
        return found[2] == 0 ? NONE : found[what];
    }

    public int count(int what) {
        if (!in(what, 0, 15)) {
            return BAD_VALUE;
        }
        return new int[] {now.balls.size(), now.made, now.turn, now.scores[0], now.scores[1], now.run,
            now.shots, now.gone, now.banks, now.hits, now.pots, now.settings[0], now.settings[1],
            now.settings[2], past.size(), text.length()}[what];
    }
}
