import java.util.Arrays;

/** Billiards on a felt of hexagons; ../shared/DOC.md tells what each call promises. */
public final class HexBilliards {
    /** There is no such cell, ball (on the felt) or player. */
    public static final int UNKNOWN = -1;
    /** Another argument is out of range. */
    public static final int BAD_VALUE = -2;
    /** There is no more room. */
    public static final int FULL = -3;
    /** This is not possible. */
    public static final int NOT_POSSIBLE = -4;
    /** There is no such thing; not an error. */
    public static final int NONE = -5;

    private static final int CELLS = 61;
    private static final int DIRECTIONS = 6;
    private static final int PLAYERS = 2;

    private static final int MOST_BALLS = 12;
    private static final int LOWEST_VALUE = 1;
    private static final int HIGHEST_VALUE = 20;

    private static final int ALL_POTS = 63;

    private static final int KEPT_AT_STEP = 0;
    private static final int KEPT_AT_BANK = 1;
    private static final int KEPT_AT_HIT = 2;
    private static final int SETTINGS = 3;
    private static final int[] LOWEST_SETTING = {50, 50, 50};
    private static final int[] HIGHEST_SETTING = {99, 100, 99};
    private static final int[] FIRST_SETTING = {90, 80, 70};

    private static final int LOWEST_STRENGTH = 10;
    private static final int HIGHEST_STRENGTH = 999;
    private static final int HIGHEST_SPIN = 2;
    private static final int MOST_STEPS_ALONG = 99;

    private static final int NO_FAULT = -1;
    private static final int FAULT_AT_0 = -100;

    private final State state = new State();
    private final State snapshot = new State();
    private final State trial = new State();
    private final History history = new History();
    private final BallText text = new BallText();
    private final Shot shot = new Shot();
    private boolean hasSnapshot;

    public HexBilliards() {
    }

    // ---- balls

    public int put(int cell, int value) {
        if (!Felt.isCell(cell)) {
            return UNKNOWN;
        }
        if (value < LOWEST_VALUE || value > HIGHEST_VALUE) {
            return BAD_VALUE;
        }
        int refusal = state.refusalToAdd(cell);
        if (refusal != NONE) {
            return refusal;
        }
        history.record(state);
        return state.addBall(cell, value);
    }

    public int putAll() {
        int fault = text.read();
        if (fault != NO_FAULT) {
            return FAULT_AT_0 - fault;
        }
        // The balls go onto a copy, so that a late error leaves nothing behind.
        trial.copyFrom(state);
        for (int i = 0; i < text.balls; i++) {
            int cell = text.cellOfBall(i);
            int refusal = trial.refusalToAdd(cell);
            if (refusal != NONE) {
                return refusal;
            }
            trial.addBall(cell, text.valueOfBall(i));
        }
        history.record(state);
        state.copyFrom(trial);
        return text.balls;
    }

    public int move(int ball, int cell) {
        if (!state.hasBall(ball) || !Felt.isCell(cell)) {
            return UNKNOWN;
        }
        int before = state.cellOfBall(ball);
        if (before == cell) {
            return NONE;
        }
        if (state.ballOnCell(cell) != NONE) {
            return NOT_POSSIBLE;
        }
        history.record(state);
        state.place(ball, cell);
        return before;
    }

    public int takeOff(int ball) {
        if (!state.hasBall(ball)) {
            return UNKNOWN;
        }
        int before = state.cellOfBall(ball);
        history.record(state);
        state.lift(ball);
        return before;
    }

    public int setPots(int open) {
        if (open < 0 || open > ALL_POTS) {
            return BAD_VALUE;
        }
        int before = state.openPots;
        if (before == open) {
            return NONE;
        }
        history.record(state);
        state.openPots = open;
        return before;
    }

    public int set(int which, int value) {
        if (which < 0 || which >= SETTINGS) {
            return BAD_VALUE;
        }
        if (value < LOWEST_SETTING[which] || value > HIGHEST_SETTING[which]) {
            return BAD_VALUE;
        }
        int before = state.settings[which];
        if (before == value) {
            return NONE;
        }
        history.record(state);
        state.settings[which] = value;
        return before;
    }

    // ---- shots

    public int shoot(int player, int ball, int direction, int strength, int spin) {
        if (!isPlayer(player) || !state.hasBall(ball)) {
            return UNKNOWN;
        }
        if (!isShot(direction, strength, spin)) {
            return BAD_VALUE;
        }
        if (player != state.turn) {
            return NOT_POSSIBLE;
        }
        history.record(state);
        shot.play(state, ball, direction, strength, spin);
        int won = state.valueOfBall(shot.gone);
        state.scoreShot(won);
        return won;
    }

    public int pass(int player) {
        if (!isPlayer(player)) {
            return UNKNOWN;
        }
        if (player != state.turn) {
            return NOT_POSSIBLE;
        }
        int before = state.run;
        history.record(state);
        state.changeTurn();
        return before;
    }

    // ---- texts

    public int type(char character) {
        return text.append(character) ? text.length : FULL;
    }

    public int clearText() {
        int before = text.length;
        text.length = 0;
        return before;
    }

    // ---- history

    public int undo() {
        return history.takeBack(state) ? history.size : NONE;
    }

    public int keep() {
        snapshot.copyFrom(state);
        hasSnapshot = true;
        return state.ballsOnFelt();
    }

    public int restore() {
        if (!hasSnapshot) {
            return NONE;
        }
        history.record(state);
        state.copyFrom(snapshot);
        return state.ballsOnFelt();
    }

    // ---- what is told

    public int cell(int q, int r) {
        return Felt.cellAt(q, r);
    }

    public int ofCell(int cell, int what) {
        if (!Felt.isCell(cell)) {
            return UNKNOWN;
        }
        switch (what) {
            case 0: return Felt.columnOf(cell) + Felt.REACH;
            case 1: return Felt.rowOf(cell) + Felt.REACH;
            case 2: return state.ballOnCell(cell);
            case 3: return Felt.cornerOf(cell);
            case 4: return Felt.cellsBeside(cell);
            default: return BAD_VALUE;
        }
    }

    public int ball(int ball, int what) {
        if (!state.hasBall(ball)) {
            return UNKNOWN;
        }
        switch (what) {
            case 0: return state.cellOf[ball];
            case 1: return state.valueOf[ball];
            case 2: return state.stepsOf[ball];
            case 3: return state.banksOf[ball];
            case 4: return state.hitsOf[ball];
            default: return BAD_VALUE;
        }
    }

    public int would(int ball, int direction, int strength, int spin, int what) {
        if (!state.hasBall(ball)) {
            return UNKNOWN;
        }
        if (!isShot(direction, strength, spin) || what < 0 || what > 5) {
            return BAD_VALUE;
        }
        tryShot(ball, direction, strength, spin);
        switch (what) {
            case 0: return shot.steps;
            case 1: return shot.banks;
            case 2: return shot.hits;
            case 3: return shot.gone;
            case 4: return trial.cellOfBall(ball);
            default: return shot.mover;
        }
    }

    public float speedLeft(int ball, int direction, int strength, int spin) {
        if (!state.hasBall(ball) || !isShot(direction, strength, spin)) {
            return -1.0f;
        }
        tryShot(ball, direction, strength, spin);
        return shot.speed;
    }

    public int along(int cell, int direction, int steps, boolean back) {
        if (!Felt.isCell(cell)) {
            return UNKNOWN;
        }
        if (!Felt.isDirection(direction) || steps < 0 || steps > MOST_STEPS_ALONG) {
            return BAD_VALUE;
        }
        Walker walker = shot.walker;
        walker.startAt(cell, direction);
        walker.walk(steps);
        if (back) {
            walker.direction = Felt.turned(walker.direction, 3);
            walker.walk(steps);
        }
        return Felt.cellAt(walker.q, walker.r);
    }

    public int best(int strength, int spin, int what) {
        if (!isForce(strength, spin) || what < 0 || what > 2) {
            return BAD_VALUE;
        }
        int most = 0;
        int bestBall = NONE;
        int bestDirection = NONE;
        for (int ball = 0; ball < MOST_BALLS; ball++) {
            for (int direction = 0; direction < DIRECTIONS && state.hasBall(ball); direction++) {
                tryShot(ball, direction, strength, spin);
                int won = state.valueOfBall(shot.gone);
                if (won > most) {
                    most = won;
                    bestBall = ball;
                    bestDirection = direction;
                }
            }
        }
        switch (what) {
            case 0: return bestBall;
            case 1: return bestDirection;
            default: return most > 0 ? most : NONE;
        }
    }

    public int count(int what) {
        switch (what) {
            case 0: return state.ballsOnFelt();
            case 1: return state.ballsSoFar;
            case 2: return state.turn;
            case 3: return state.scores[0];
            case 4: return state.scores[1];
            case 5: return state.run;
            case 6: return state.shots;
            case 7: return state.goneByShots;
            case 8: return State.total(state.banksOf);
            case 9: return State.total(state.hitsOf);
            case 10: return state.openPots;
            case 11: return state.settings[KEPT_AT_STEP];
            case 12: return state.settings[KEPT_AT_BANK];
            case 13: return state.settings[KEPT_AT_HIT];
            case 14: return history.size;
            case 15: return text.length;
            default: return BAD_VALUE;
        }
    }

    private static boolean isPlayer(int player) {
        return player >= 0 && player < PLAYERS;
    }

    private static boolean isShot(int direction, int strength, int spin) {
        return Felt.isDirection(direction) && isForce(strength, spin);
    }

    private static boolean isForce(int strength, int spin) {
        return strength >= LOWEST_STRENGTH && strength <= HIGHEST_STRENGTH
            && spin >= 0 && spin <= HIGHEST_SPIN;
    }

    private void tryShot(int ball, int direction, int strength, int spin) {
        trial.copyFrom(state);
        shot.play(trial, ball, direction, strength, spin);
    }

    /** The cells and how they lie to each other. */
    private static final class Felt {
        private static final int REACH = 4;
        private static final int ROWS = 9;
        private static final int[] STEP_Q = {1, 1, 0, -1, -1, 0};
        private static final int[] STEP_R = {0, -1, -1, 0, 1, 1};
        private static final int[] CORNER_CELLS = {34, 4, 0, 26, 56, 60};
        private static final int[] FIRST_OF_ROW = {0, 5, 11, 18, 26, 35, 43, 50, 56};

        static boolean isCell(int cell) {
            return cell >= 0 && cell < CELLS;
        }

        static boolean isDirection(int direction) {
            return direction >= 0 && direction < DIRECTIONS;
        }

        static boolean isOut(int coordinate) {
            return coordinate < -REACH || coordinate > REACH;
        }

        static int cellAt(int q, int r) {
            // q + r comes last: with q and r in range it can't overflow.
            if (isOut(q) || isOut(r) || isOut(q + r)) {
                return NONE;
            }
            return FIRST_OF_ROW[r + REACH] + q - firstColumn(r);
        }

        static int firstColumn(int r) {
            return r < 0 ? -REACH - r : -REACH;
        }

        static int rowOf(int cell) {
            int row = 0;
            while (row + 1 < ROWS && FIRST_OF_ROW[row + 1] <= cell) {
                row++;
            }
            return row - REACH;
        }

        static int columnOf(int cell) {
            int r = rowOf(cell);
            return cell - FIRST_OF_ROW[r + REACH] + firstColumn(r);
        }

        static int stepQ(int direction) {
            return isDirection(direction) ? STEP_Q[direction] : 0;
        }

        static int stepR(int direction) {
            return isDirection(direction) ? STEP_R[direction] : 0;
        }

        static int turned(int direction, int sixths) {
            return Math.floorMod(direction + sixths, DIRECTIONS);
        }

        static int cornerOf(int cell) {
            for (int corner = 0; corner < CORNER_CELLS.length; corner++) {
                if (CORNER_CELLS[corner] == cell) {
                    return corner;
                }
            }
            return NONE;
        }

        static int cellsBeside(int cell) {
            int q = columnOf(cell);
            int r = rowOf(cell);
            int beside = 0;
            for (int direction = 0; direction < DIRECTIONS; direction++) {
                if (cellAt(q + STEP_Q[direction], r + STEP_R[direction]) != NONE) {
                    beside++;
                }
            }
            return beside;
        }
    }

    /** A place and a direction, without speed and without other balls. */
    private static final class Walker {
        private int q;
        private int r;
        private int direction;

        void startAt(int cell, int towards) {
            q = Felt.columnOf(cell);
            r = Felt.rowOf(cell);
            direction = towards;
        }

        int cellAhead() {
            return Felt.cellAt(q + Felt.stepQ(direction), r + Felt.stepR(direction));
        }

        void stepAhead() {
            q += Felt.stepQ(direction);
            r += Felt.stepR(direction);
        }

        void turnAtBank() {
            int aheadQ = q + Felt.stepQ(direction);
            int aheadR = r + Felt.stepR(direction);
            boolean outQ = Felt.isOut(aheadQ);
            boolean outR = Felt.isOut(aheadR);
            boolean outSum = Felt.isOut(aheadQ + aheadR);
            boolean twoOut = outQ && outR || outQ && outSum || outR && outSum;
            if (twoOut) {
                direction = Felt.turned(direction, 3);
            } else {
                int axis = outQ ? 2 : outR ? 0 : 1;
                direction = Felt.turned(-direction, 2 * axis);
            }
        }

        void turnOnIfOpen() {
            int next = Felt.turned(direction, 1);
            if (Felt.cellAt(q + Felt.stepQ(next), r + Felt.stepR(next)) != NONE) {
                direction = next;
            }
        }

        void walk(int steps) {
            for (int i = 0; i < steps; i++) {
                if (cellAhead() == NONE) {
                    turnAtBank();
                }
                stepAhead();
            }
        }
    }

    /** One shot at a time, played on the state that it is given. */
    private static final class Shot {
        // A shot with the most speed and the least loss needs less than 1,000.
        private static final int MOST_EVENTS = 1000000;
        private static final float LOWEST_SPEED = 1.0f;
        private static final int THIRDS_OF_A_TURN = 3;

        private final Walker walker = new Walker();
        private int mover;
        private float speed;
        private int spin;
        private int thirds;
        private int steps;
        private int banks;
        private int hits;
        private int gone;

        void play(State state, int ball, int direction, int strength, int withSpin) {
            walker.startAt(state.cellOfBall(ball), direction);
            mover = ball;
            speed = (float) strength / 10.0f;
            spin = withSpin;
            thirds = 0;
            steps = 0;
            banks = 0;
            hits = 0;
            gone = NONE;
            for (int i = 0; i < MOST_EVENTS && speed >= LOWEST_SPEED && gone == NONE; i++) {
                int ahead = walker.cellAhead();
                int other = state.ballOnCell(ahead);
                if (ahead == NONE) {
                    bank(state);
                } else if (other == NONE) {
                    step(state, ahead);
                } else {
                    hit(state, other);
                }
            }
        }

        private void bank(State state) {
            slow(state.settings[KEPT_AT_BANK]);
            banks++;
            state.addBank(mover);
            walker.turnAtBank();
            thirds += spin;
            if (thirds >= THIRDS_OF_A_TURN) {
                thirds -= THIRDS_OF_A_TURN;
                walker.turnOnIfOpen();
            }
        }

        private void hit(State state, int other) {
            slow(state.settings[KEPT_AT_HIT]);
            hits++;
            state.addHit(mover);
            mover = other;
            spin = 0;
            thirds = 0;
            // From here on the walker stands for the ball that was hit.
            walker.stepAhead();
        }

        private void step(State state, int cell) {
            slow(state.settings[KEPT_AT_STEP]);
            steps++;
            state.addStep(mover);
            state.place(mover, cell);
            walker.stepAhead();
            if (state.isOpenPot(cell)) {
                state.lift(mover);
                gone = mover;
            }
        }

        private void slow(int hundredths) {
            speed = speed * ((float) hundredths / 100.0f);
        }
    }

    /** All that undo() and restore() bring back. */
    private static final class State {
        private final int[] cellOf = new int[MOST_BALLS];
        private final int[] valueOf = new int[MOST_BALLS];
        // The rows keep what balls did that are gone: the totals need it.
        private final int[] stepsOf = new int[MOST_BALLS];
        private final int[] banksOf = new int[MOST_BALLS];
        private final int[] hitsOf = new int[MOST_BALLS];
        private final int[] ballOn = new int[CELLS];
        private final int[] settings = new int[SETTINGS];
        private final int[] scores = new int[PLAYERS];
        private int ballsSoFar;
        private int openPots;
        private int turn;
        private int run;
        private int shots;
        private int goneByShots;

        State() {
            Arrays.fill(cellOf, NONE);
            Arrays.fill(ballOn, NONE);
            System.arraycopy(FIRST_SETTING, 0, settings, 0, SETTINGS);
            openPots = ALL_POTS;
        }

        void copyFrom(State other) {
            System.arraycopy(other.cellOf, 0, cellOf, 0, MOST_BALLS);
            System.arraycopy(other.valueOf, 0, valueOf, 0, MOST_BALLS);
            System.arraycopy(other.stepsOf, 0, stepsOf, 0, MOST_BALLS);
            System.arraycopy(other.banksOf, 0, banksOf, 0, MOST_BALLS);
            System.arraycopy(other.hitsOf, 0, hitsOf, 0, MOST_BALLS);
            System.arraycopy(other.ballOn, 0, ballOn, 0, CELLS);
            System.arraycopy(other.settings, 0, settings, 0, SETTINGS);
            System.arraycopy(other.scores, 0, scores, 0, PLAYERS);
            ballsSoFar = other.ballsSoFar;
            openPots = other.openPots;
            turn = other.turn;
            run = other.run;
            shots = other.shots;
            goneByShots = other.goneByShots;
        }

        static boolean isBallNumber(int ball) {
            return ball >= 0 && ball < MOST_BALLS;
        }

        static int total(int[] row) {
            int sum = 0;
            for (int i = 0; i < row.length; i++) {
                sum += row[i];
            }
            return sum;
        }

        boolean hasBall(int ball) {
            return isBallNumber(ball) && cellOf[ball] != NONE;
        }

        int cellOfBall(int ball) {
            return isBallNumber(ball) ? cellOf[ball] : NONE;
        }

        int valueOfBall(int ball) {
            return isBallNumber(ball) ? valueOf[ball] : 0;
        }

        int ballOnCell(int cell) {
            return Felt.isCell(cell) ? ballOn[cell] : NONE;
        }

        int ballsOnFelt() {
            int balls = 0;
            for (int ball = 0; ball < MOST_BALLS; ball++) {
                if (cellOf[ball] != NONE) {
                    balls++;
                }
            }
            return balls;
        }

        boolean isOpenPot(int cell) {
            int corner = Felt.cornerOf(cell);
            return corner != NONE && (openPots >> corner & 1) == 1;
        }

        int refusalToAdd(int cell) {
            if (ballOnCell(cell) != NONE) {
                return NOT_POSSIBLE;
            }
            return ballsSoFar < MOST_BALLS ? NONE : FULL;
        }

        int addBall(int cell, int value) {
            int ball = ballsSoFar;
            if (!isBallNumber(ball)) {
                return FULL;
            }
            ballsSoFar++;
            valueOf[ball] = value;
            place(ball, cell);
            return ball;
        }

        void place(int ball, int cell) {
            if (isBallNumber(ball) && Felt.isCell(cell)) {
                lift(ball);
                cellOf[ball] = cell;
                ballOn[cell] = ball;
            }
        }

        void lift(int ball) {
            if (isBallNumber(ball) && Felt.isCell(cellOf[ball])) {
                ballOn[cellOf[ball]] = NONE;
                cellOf[ball] = NONE;
            }
        }

        void addStep(int ball) {
            if (isBallNumber(ball)) {
                stepsOf[ball]++;
            }
        }

        void addBank(int ball) {
            if (isBallNumber(ball)) {
                banksOf[ball]++;
            }
        }

        void addHit(int ball) {
            if (isBallNumber(ball)) {
                hitsOf[ball]++;
            }
        }

        void scoreShot(int won) {
            shots++;
            if (won == 0) {
                changeTurn();
                return;
            }
            goneByShots++;
            run++;
            if (isPlayer(turn)) {
                scores[turn] += won;
            }
        }

        void changeTurn() {
            turn = 1 - turn;
            run = 0;
        }
    }

    /** The latest states; its rows are made once and used again. */
    private static final class History {
        private static final int MOST_STATES = 4;

        private final State[] states = new State[MOST_STATES];
        private int size;

        History() {
            for (int i = 0; i < MOST_STATES; i++) {
                states[i] = new State();
            }
        }

        void record(State state) {
            if (size >= MOST_STATES) {
                dropOldest();
            }
            if (size >= 0 && size < MOST_STATES) {
                states[size].copyFrom(state);
                size++;
            }
        }

        boolean takeBack(State state) {
            if (size < 1 || size > MOST_STATES) {
                return false;
            }
            size--;
            state.copyFrom(states[size]);
            return true;
        }

        private void dropOldest() {
            State oldest = states[0];
            for (int i = 1; i < MOST_STATES; i++) {
                states[i - 1] = states[i];
            }
            states[MOST_STATES - 1] = oldest;
            size = MOST_STATES - 1;
        }
    }

    /** The text that is typed, and the balls that were last read from it. */
    private static final class BallText {
        private static final int MOST_CHARACTERS = 60;
        // The shortest ball with its ";" is of four characters.
        private static final int MOST_BALLS_READ = 16;
        private static final int HIGHEST_CELL = CELLS - 1;

        private static final int BEFORE_CELL = 0;
        private static final int IN_CELL = 1;
        private static final int BEFORE_VALUE = 2;
        private static final int IN_VALUE = 3;

        private final char[] characters = new char[MOST_CHARACTERS];
        private int length;
        private final int[] cells = new int[MOST_BALLS_READ];
        private final int[] values = new int[MOST_BALLS_READ];
        private int balls;
        private int place;
        private int number;

        boolean append(char character) {
            if (length < 0 || length >= MOST_CHARACTERS) {
                return false;
            }
            characters[length] = character;
            length++;
            return true;
        }

        int cellOfBall(int i) {
            return i >= 0 && i < MOST_BALLS_READ ? cells[i] : NONE;
        }

        int valueOfBall(int i) {
            return i >= 0 && i < MOST_BALLS_READ ? values[i] : 0;
        }

        /** Answers the fault of the text, or NO_FAULT. */
        int read() {
            balls = 0;
            place = BEFORE_CELL;
            for (int i = 0; i < length && i < MOST_CHARACTERS; i++) {
                if (!takes(characters[i])) {
                    return i;
                }
            }
            if (place != IN_VALUE) {
                return length;
            }
            endBall();
            return NO_FAULT;
        }

        private boolean takes(char character) {
            switch (place) {
                case BEFORE_CELL: return beginsNumber(character, '0', IN_CELL);
                case IN_CELL: return character == ':' ? endsCell() : growsNumber(character, HIGHEST_CELL);
                case BEFORE_VALUE: return beginsNumber(character, '1', IN_VALUE);
                default: return character == ';' ? endBall() : growsNumber(character, HIGHEST_VALUE);
            }
        }

        private boolean beginsNumber(char character, char lowest, int nextPlace) {
            if (character < lowest || character > '9') {
                return false;
            }
            number = character - '0';
            place = nextPlace;
            return true;
        }

        private boolean growsNumber(char character, int highest) {
            if (character < '0' || character > '9' || number == 0) {
                return false;
            }
            int grown = number * 10 + (character - '0');
            if (grown > highest) {
                return false;
            }
            number = grown;
            return true;
        }

        private boolean endsCell() {
            if (balls < 0 || balls >= MOST_BALLS_READ) {
                return false;
            }
            cells[balls] = number;
            place = BEFORE_VALUE;
            return true;
        }

        private boolean endBall() {
            if (balls < 0 || balls >= MOST_BALLS_READ) {
                return false;
            }
            values[balls] = number;
            balls++;
            place = BEFORE_CELL;
            return true;
        }
    }
}
