/**
 * Promises 1 to 22: long runs of calls, with right and wrong arguments, on the class and on the
 * model beside each other. The runs are drawn by a fixed row of numbers, so they are always the same.
 */
public final class ModelRuns {
    private static final int RUNS = 1500;
    private static final int CALLS = 120;

    private long seed;
    private final HexBilliards x = new HexBilliards();
    private final Model m = new Model();
    private final StringBuilder told = new StringBuilder();
    private String typed = "";

    private ModelRuns(int run) {
        seed = run * 7919L + 13;
        draw(2);
    }

    public static void main(String[] args) {
        for (int run = 0; run < RUNS && Check.wrong() < 5; run++) {
            new ModelRuns(run).go();
        }
        Check.end("ModelRuns");
    }

    private int draw(int below) {
        seed = seed * 6364136223846793005L + 1442695040888963407L;
        return (int) Math.floorMod(seed >>> 33, (long) below);
    }

    /** Mostly in the range, now and then just outside of it or far away. */
    private int pick(int low, int high) {
        int kind = draw(40);
        if (kind == 0) {
            return low - 1;
        }
        if (kind == 1) {
            return high + 1;
        }
        if (kind == 2) {
            return draw(2) == 0 ? Integer.MIN_VALUE : Integer.MAX_VALUE;
        }
        if (kind == 3) {
            return draw(2) == 0 ? low : high;
        }
        return low + draw(high - low + 1);
    }

    private int pickBall() {
        int so = m.count(1);
        return draw(12) == 0 || so == 0 ? pick(0, 11) : draw(so);
    }

    private int pickPlayer() {
        return draw(10) == 0 ? pick(0, 1) : m.count(2);
    }

    private void compare(String call, double got, double want) {
        told.append(call).append(" -> ").append(want).append('\n');
        int before = Check.wrong();
        Check.due(call, got, want);
        if (Check.wrong() > before) {
            System.out.println("at the end of this run:\n" + told);
        }
    }

    private void go() {
        int before = Check.wrong();
        for (int call = 0; call < CALLS && Check.wrong() == before; call++) {
            int kind = draw(100);
            if (kind < 45) {
                act();
            } else if (kind < 55) {
                write();
            } else if (kind < 65) {
                goBack();
            } else {
                tell();
            }
        }
        if (Check.wrong() == before) {
            tellAll();
        }
    }

    private void act() {
        int ball = pickBall();
        int cell = pick(0, 60);
        switch (draw(11)) {
            case 0: case 1: case 2: {
                int value = pick(1, 20);
                compare("put(" + cell + ", " + value + ")", x.put(cell, value), m.put(cell, value));
                break;
            }
            case 3:
                compare("move(" + ball + ", " + cell + ")", x.move(ball, cell), m.move(ball, cell));
                break;
            case 4:
                if (draw(3) == 0) {
                    compare("takeOff(" + ball + ")", x.takeOff(ball), m.takeOff(ball));
                }
                break;
            case 5: {
                int open = pick(0, 63) & (draw(2) == 0 ? -1 : draw(64));
                compare("setPots(" + open + ")", x.setPots(open), m.setPots(open));
                break;
            }
            case 6: {
                int which = pick(0, 2);
                int value = draw(3) == 0 ? 98 + draw(4) : pick(50, 100);
                compare("set(" + which + ", " + value + ")", x.set(which, value), m.set(which, value));
                break;
            }
            case 7: {
                int player = draw(2) == 0 ? m.count(2) : pick(0, 1);
                compare("pass(" + player + ")", x.pass(player), m.pass(player));
                break;
            }
            default: {
                int player = pickPlayer();
                int direction = pick(0, 5);
                int strength = strength();
                int spin = pick(0, 2);
                compare("shoot(" + player + ", " + ball + ", " + direction + ", " + strength + ", " + spin + ")",
                    x.shoot(player, ball, direction, strength, spin),
                    m.shoot(player, ball, direction, strength, spin));
            }
        }
    }

    private int strength() {
        return draw(2) == 0 ? pick(10, 40) : pick(10, 999);
    }

    private void write() {
        switch (draw(4)) {
            case 0:
                compare("clearText()", x.clearText(), m.clearText());
                typed = "";
                break;
            case 1:
                compare("putAll()", x.putAll(), m.putAll());
                break;
            case 2:
                typeAll(ballText(1 + draw(3)));
                break;
            default:
                typeAll("" + "0123456789:;x /\u0130".charAt(draw(16)));
        }
    }

    private String ballText(int balls) {
        StringBuilder text = new StringBuilder(typed.isEmpty() || typed.endsWith(";") ? "" : ";");
        for (int i = 0; i < balls; i++) {
            text.append(i == 0 ? "" : ";").append(pick(0, 60)).append(':').append(pick(1, 20));
        }
        return text.toString();
    }

    private void typeAll(String text) {
        for (char c : text.toCharArray()) {
            compare("type((char) " + (int) c + ")", x.type(c), m.type(c));
        }
        typed += text;
    }

    private void goBack() {
        switch (draw(4)) {
            case 0:
                compare("keep()", x.keep(), m.keep());
                break;
            case 1:
                compare("restore()", x.restore(), m.restore());
                break;
            default:
                compare("undo()", x.undo(), m.undo());
        }
    }

    private void tell() {
        int ball = pickBall();
        int cell = pick(0, 60);
        int direction = pick(0, 5);
        int strength = strength();
        int spin = pick(0, 2);
        String shot = ball + ", " + direction + ", " + strength + ", " + spin;
        switch (draw(8)) {
            case 0: {
                int q = pick(-4, 4);
                int r = pick(-4, 4);
                compare("cell(" + q + ", " + r + ")", x.cell(q, r), m.cell(q, r));
                break;
            }
            case 1: {
                int what = pick(0, 4);
                compare("ofCell(" + cell + ", " + what + ")", x.ofCell(cell, what), m.ofCell(cell, what));
                break;
            }
            case 2: {
                int what = pick(0, 4);
                compare("ball(" + ball + ", " + what + ")", x.ball(ball, what), m.ball(ball, what));
                break;
            }
            case 3: {
                int what = pick(0, 5);
                compare("would(" + shot + ", " + what + ")",
                    x.would(ball, direction, strength, spin, what), m.would(ball, direction, strength, spin, what));
                break;
            }
            case 4:
                compare("speedLeft(" + shot + ")",
                    x.speedLeft(ball, direction, strength, spin), m.speedLeft(ball, direction, strength, spin));
                break;
            case 5: {
                int steps = pick(0, 99);
                boolean back = draw(2) == 0;
                compare("along(" + cell + ", " + direction + ", " + steps + ", " + back + ")",
                    x.along(cell, direction, steps, back), m.along(cell, direction, steps, back));
                break;
            }
            case 6: {
                int what = pick(0, 2);
                compare("best(" + strength + ", " + spin + ", " + what + ")",
                    x.best(strength, spin, what), m.best(strength, spin, what));
                break;
            }
            default: {
                int what = pick(0, 15);
                compare("count(" + what + ")", x.count(what), m.count(what));
            }
        }
    }

    private void tellAll() {
        for (int what = -1; what <= 16; what++) {
            compare("count(" + what + ")", x.count(what), m.count(what));
        }
        for (int ball = -1; ball <= 12; ball++) {
            for (int what = -1; what <= 5; what++) {
                compare("ball(" + ball + ", " + what + ")", x.ball(ball, what), m.ball(ball, what));
            }
        }
        for (int cell = -1; cell <= 61; cell++) {
            compare("ofCell(" + cell + ", 2)", x.ofCell(cell, 2), m.ofCell(cell, 2));
        }
    }
}
