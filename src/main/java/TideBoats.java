/**
 * A game of tides: boats with drafts on a board of sands, that go only where there is water enough.
 * Errors are told by the constants; a call that returns an error or NONE changes nothing.
 */
public final class TideBoats {
    /** There is no such cell, boat, player or turn. */
    public static final int UNKNOWN = -1;
    /** Another argument is out of range. */
    public static final int BAD_VALUE = -2;
    /** There is no more room. */
    public static final int FULL = -3;
    /** This is not possible. */
    public static final int NOT_POSSIBLE = -4;
    /** There is no such thing; not an error. */
    public static final int NONE = -5;

    private static final int SIDE = 6;
    private static final int CELLS = 36;
    private static final int NO_CELL = -1;
    private static final int HARBOUR_OF_0 = 35;
    private static final int HARBOUR_OF_1 = 0;
    private static final int FIRST_HEIGHT = 1;
    private static final int MOST_HEIGHT = 4;

    private static final int RIGHT = 0;
    private static final int DOWN = 1;
    private static final int LEFT = 2;
    private static final int UP = 3;
    private static final int DIRECTIONS = 4;
    private static final int MOST_STEPS = 3;

    private static final int MOST_BOATS = 10;
    private static final int MOST_DRAFT = 3;
    private static final int ON_BOARD = 0;
    private static final int HOME = 1;
    private static final int WRECKED = 2;

    private static final int LOW_WATER = 0;
    private static final int RISE_STEPS = 1;
    private static final int STEP_TURNS = 2;
    private static final int LAST_TURN = 3;
    private static final int SETTINGS = 4;
    private static final int[] LEAST_SETTING = {0, 1, 1, 10};
    private static final int[] MOST_SETTING = {3, 4, 3, 99};
    private static final int MOST_TURN_TOLD = 1000;

    private static final int GAME_OVER = 1;
    private static final int NOT_ON_BOARD = 2;
    private static final int OTHER_TURN = 3;
    private static final int AGROUND = 4;
    private static final int NO_WAY = 5;
    private static final int BOAT_IN_WAY = 6;
    private static final int MOVE_ERROR = -10;

    private static final int MOST_PAST = 4;
    private static final int MOST_SIGNS = 60;
    private static final int FAULT_ERROR = -100;

    // Far enough apart that no draft and no number of turns leads from one kind of move to the next.
    private static final int HOME_WORTH = 3000;
    private static final int RAM_WORTH = 2000;
    private static final int APPROACH_WORTH = 1000;
    private static final int NO_WORTH = 0;

    private final State now;
    private final State before;
    private final Rules rules;
    private final HomeSearch search;
    private final History history;
    private final Orders text;

    /** Creates a flat board without boats, in the turn 0. */
    public TideBoats() {
        now = new State();
        before = new State();
        rules = new Rules(now);
        search = new HomeSearch(now);
        history = new History();
        text = new Orders();
    }

    // ---- the board

    /**
     * Gives a cell another height and a rock, or none. This is an act.
     *
     * @return the previous height; UNKNOWN; BAD_VALUE; NOT_POSSIBLE if it is a harbour, or the turn
     *     is not 0; NONE if it is so already
     */
    public int sand(int cell, int height, boolean rock) {
        before.copyFrom(now);
        return recorded(rules.laySand(cell, height, rock));
    }

    /**
     * A boat comes. This is an act.
     *
     * @return its number; UNKNOWN (player or cell); BAD_VALUE; NOT_POSSIBLE if the turn is not 0, it
     *     is a harbour, or a boat is there; FULL if there are 10
     */
    public int boat(int player, int draft, int cell) {
        before.copyFrom(now);
        return recorded(rules.addBoat(player, draft, cell));
    }

    /**
     * Sets a setting. This is an act.
     *
     * @return the previous one; BAD_VALUE (which or value); NOT_POSSIBLE if the turn is not 0; NONE if
     *     it is so already
     */
    public int set(int which, int value) {
        before.copyFrom(now);
        return recorded(rules.changeSetting(which, value));
    }

    // ---- the game

    /**
     * Moves a boat. This is an act, if it is moved.
     *
     * @return the draft of the boat that is rammed, 0 if none is; UNKNOWN; BAD_VALUE; -10 minus the
     *     reason 1 to 6 if it cannot be moved so
     */
    public int move(int boat, int direction, int steps) {
        before.copyFrom(now);
        return recorded(rules.sail(boat, direction, steps));
    }

    /**
     * The player whose turn it is waits. This is an act.
     *
     * @return the tide then; NOT_POSSIBLE if the game is over
     */
    public int pause() {
        before.copyFrom(now);
        return recorded(rules.waitATurn());
    }

    // ---- texts

    /**
     * Appends a character to the text.
     *
     * @return the length then; FULL if it has 60 characters
     */
    public int type(char character) {
        return text.append(character);
    }

    /**
     * Empties the text.
     *
     * @return the length that it had
     */
    public int clearText() {
        return text.removeAll();
    }

    /**
     * Tells the fault of the text.
     *
     * @return the index; NONE if it has none
     */
    public int fault() {
        return text.findFault();
    }

    /**
     * Does the orders of the text, which stays, all of them or none. This is one act.
     *
     * @return how many orders the text has; -100 minus the fault of the text if it has one; otherwise
     *     the error of the first order that has one
     */
    public int doAll() {
        int fault = text.findFault();
        if (fault != NONE) {
            return FAULT_ERROR - fault;
        }
        before.copyFrom(now);
        int orders = 0;
        int start = 0;
        for (int round = 0; round < MOST_SIGNS && start < text.length; round++) {
            int answer = doOrder(start);
            if (answer < 0 && answer != NONE) {
                now.copyFrom(before);
                return answer;
            }
            orders++;
            start = text.endOfOrder(start) + 1;
        }
        return recorded(orders);
    }

    // ---- history

    /**
     * Removes and restores the latest state of the history.
     *
     * @return the number of states that are left; NONE if the history is empty
     */
    public int undo() {
        return history.takeLatest(now);
    }

    /**
     * Takes a snapshot of the state, in place of the one that was.
     *
     * @return the turn
     */
    public int keep() {
        history.takeSnapshot(now);
        return now.turn;
    }

    /**
     * Restores the state of the snapshot, which stays. This is an act.
     *
     * @return the turn then; NONE if there is no snapshot
     */
    public int restore() {
        before.copyFrom(now);
        return recorded(history.giveSnapshot(now));
    }

    // ---- what is told

    /**
     * Tells of a cell: 0 its height, 1 whether it has a rock, 2 the water over it now, 3 the boat there.
     *
     * @return the number; UNKNOWN; BAD_VALUE
     */
    public int cellOf(int cell, int what) {
        if (!isCell(cell)) {
            return UNKNOWN;
        }
        switch (what) {
            case 0: return read(now.heights, cell);
            case 1: return read(now.rocks, cell);
            case 2: return now.waterOver(cell);
            case 3: return now.boatAt(cell);
            default: return BAD_VALUE;
        }
    }

    /**
     * Tells of a boat: 0 its player, 1 its draft, 2 how it is, 3 its cell, 4 whether it floats, 5 the
     * steps that it went so far, 6 how many moves it has now, whoever's turn it is.
     *
     * @return the number; UNKNOWN; BAD_VALUE
     */
    public int boatOf(int boat, int what) {
        if (!now.isBoat(boat)) {
            return UNKNOWN;
        }
        switch (what) {
            case 0: return read(now.owners, boat);
            case 1: return read(now.drafts, boat);
            case 2: return read(now.conditions, boat);
            case 3: return now.isOnBoard(boat) ? read(now.places, boat) : NONE;
            case 4: return now.isOnBoard(boat) && now.floats(boat) ? 1 : 0;
            case 5: return read(now.stepsGone, boat);
            case 6: return rules.movesOf(boat);
            default: return BAD_VALUE;
        }
    }

    /**
     * Tells the tide of a turn, 0 to 1000.
     *
     * @return the tide; UNKNOWN
     */
    public int tide(int turn) {
        return turn < 0 || turn > MOST_TURN_TOLD ? UNKNOWN : now.tideIn(turn);
    }

    /**
     * Tells why a boat cannot be moved so: 1 the game is over, 2 it is not on the board, 3 it is the
     * other player's turn, 4 it is aground, 5 there is no way for it, 6 a boat is in the way.
     *
     * @return the first reason; 0 if it can; UNKNOWN; BAD_VALUE
     */
    public int why(int boat, int direction, int steps) {
        int error = rules.errorOfMove(boat, direction, steps);
        return error != 0 ? error : rules.reasonAgainst(boat, direction, steps, false);
    }

    /**
     * Tells a number of the game: 0 the turn, 1 whose it is, 2 the tide, 3 and 4 the scores, 5 boats, 6
     * to 8 those on the board, home and wrecked, 9 aground, 10 rammed, 11 whether the game is over, 12
     * moves, 13 states in the history, 14 the length of the text, 15 to 18 the settings.
     *
     * @return the number; BAD_VALUE
     */
    public int count(int what) {
        switch (what) {
            case 0: return now.turn;
            case 1: return now.mover();
            case 2: return now.tideIn(now.turn);
            case 3: return now.scoreOf(0);
            case 4: return now.scoreOf(1);
            case 5: return now.boats;
            case 6: return now.boatsThatAre(ON_BOARD);
            case 7: return now.boatsThatAre(HOME);
            case 8: return now.boatsThatAre(WRECKED);
            case 9: return now.boatsAground();
            case 10: return now.boatsRammed;
            case 11: return now.isOver() ? 1 : 0;
            case 12: return movesOfMover();
            case 13: return history.size;
            case 14: return text.length;
            case 15: return now.lowWater;
            case 16: return now.riseSteps;
            case 17: return now.stepTurns;
            case 18: return now.lastTurn;
            default: return BAD_VALUE;
        }
    }

    /**
     * Tells for what share of the turns of a tide a draft floats over a cell.
     *
     * @return the share of the turns of a whole rise and fall; -1.0f if there is no such cell or draft
     */
    public float afloat(int cell, int draft) {
        int all = now.turnsOfTide();
        if (!isCell(cell) || !isDraft(draft) || all < 1) {
            return -1.0f;
        }
        int wet = 0;
        for (int turn = 0; turn < all; turn++) {
            if (now.isWet(cell, draft, turn)) {
                wet++;
            }
        }
        return (float) wet / (float) all;
    }

    // ---- what would be

    /**
     * Tells in how many turns a boat floats where it is, by the tide alone.
     *
     * @return 0 if it does now; UNKNOWN; NOT_POSSIBLE if it is not on the board; NONE if it never does
     */
    public int floatsIn(int boat) {
        if (!now.isBoat(boat)) {
            return UNKNOWN;
        }
        if (!now.isOnBoard(boat)) {
            return NOT_POSSIBLE;
        }
        int cell = read(now.places, boat);
        int draft = read(now.drafts, boat);
        int all = now.turnsOfTide();
        for (int turns = 0; turns < all; turns++) {
            if (now.isWet(cell, draft, now.turn + turns)) {
                return turns;
            }
        }
        return NONE;
    }

    /**
     * Tells in how many turns from now on a boat could be home, if no other boat was there: told in the
     * way 0 by the cells where it can be, in the way 1 by cells from the harbour on.
     *
     * @return how many turns, the one of its last move counted; UNKNOWN; BAD_VALUE; NOT_POSSIBLE if it
     *     is not on the board; NONE if it cannot
     */
    public int homeIn(int boat, int way) {
        if (!now.isBoat(boat)) {
            return UNKNOWN;
        }
        if (way != 0 && way != 1) {
            return BAD_VALUE;
        }
        if (!now.isOnBoard(boat)) {
            return NOT_POSSIBLE;
        }
        search.prepare(boat);
        int cell = read(now.places, boat);
        return way == 0 ? search.turnsForwards(cell, now.turn) : search.turnsBackwards(cell, now.turn);
    }

    /**
     * Tells the boats of a player that would be wrecked if the player whose turn it is waited.
     *
     * @return the boats as a set, the bit n for the boat n (0 if the game is over); UNKNOWN
     */
    public int inDanger(int player) {
        if (!isPlayer(player)) {
            return UNKNOWN;
        }
        if (now.isOver()) {
            return 0;
        }
        int boats = 0;
        for (int boat = 0; boat < now.boats; boat++) {
            if (read(now.owners, boat) == player && now.isWreckedAhead(boat)) {
                boats |= 1 << boat;
            }
        }
        return boats;
    }

    /**
     * Finds the best move of the player whose turn it is.
     *
     * @return 100 times the boat, 10 times the direction, and the steps, together; NOT_POSSIBLE if the
     *     game is over; NONE if there is no move that brings a boat home, rams, or leads nearer home
     */
    public int best() {
        if (now.isOver()) {
            return NOT_POSSIBLE;
        }
        int best = NONE;
        int most = NO_WORTH;
        for (int boat = 0; boat < now.boats; boat++) {
            for (int direction = 0; direction < DIRECTIONS; direction++) {
                for (int steps = 1; steps <= MOST_STEPS; steps++) {
                    int worth = worthOf(boat, direction, steps);
                    if (worth > most) {
                        most = worth;
                        best = 100 * boat + 10 * direction + steps;
                    }
                }
            }
        }
        return best;
    }

    /** Records the state from before an act, unless its answer is an error or NONE. */
    private int recorded(int answer) {
        if (answer >= 0) {
            history.record(before);
        }
        return answer;
    }

    private int doOrder(int start) {
        char first = text.signAt(start);
        if (Orders.isColumn(first)) {
            return rules.laySand(text.cellAt(start), text.heightAt(start + 3), text.isRockAt(start + 4));
        }
        if (first == Orders.BOAT_SIGN) {
            return rules.addBoat(text.playerAt(start + 1), text.draftAt(start + 2), text.cellAt(start + 3));
        }
        if (first == Orders.WAIT_SIGN) {
            return rules.waitATurn();
        }
        return rules.sail(text.boatAt(start), text.directionAt(start + 1), text.stepsAt(start + 2));
    }

    private int movesOfMover() {
        int moves = 0;
        for (int boat = 0; boat < now.boats; boat++) {
            if (read(now.owners, boat) == now.mover()) {
                moves += rules.movesOf(boat);
            }
        }
        return moves;
    }

    private int worthOf(int boat, int direction, int steps) {
        if (rules.reasonAgainst(boat, direction, steps, false) != 0) {
            return NO_WORTH;
        }
        int goal = cellFrom(read(now.places, boat), direction, steps);
        if (goal == harbourOf(read(now.owners, boat))) {
            return HOME_WORTH + read(now.drafts, boat);
        }
        int other = now.boatAt(goal);
        if (other != NONE) {
            return RAM_WORTH + read(now.drafts, other);
        }
        search.prepare(boat);
        int turns = search.turnsBehind(goal, now.turn);
        return turns == NONE ? NO_WORTH : APPROACH_WORTH - turns;
    }

    private static boolean isCell(int cell) {
        return cell >= 0 && cell < CELLS;
    }

    private static boolean isPlayer(int player) {
        return player == 0 || player == 1;
    }

    private static boolean isDraft(int draft) {
        return draft >= 1 && draft <= MOST_DRAFT;
    }

    private static boolean isHarbour(int cell) {
        return cell == HARBOUR_OF_0 || cell == HARBOUR_OF_1;
    }

    private static int harbourOf(int player) {
        return player == 0 ? HARBOUR_OF_0 : HARBOUR_OF_1;
    }

    /** The cell beside a cell, or NO_CELL off the board. */
    private static int cellBeside(int cell, int direction) {
        if (!isCell(cell)) {
            return NO_CELL;
        }
        int column = cell % SIDE;
        switch (direction) {
            case RIGHT: return column < SIDE - 1 ? cell + 1 : NO_CELL;
            case DOWN: return cell + SIDE < CELLS ? cell + SIDE : NO_CELL;
            case LEFT: return column > 0 ? cell - 1 : NO_CELL;
            case UP: return cell >= SIDE ? cell - SIDE : NO_CELL;
            default: return NO_CELL;
        }
    }

    /** The cell some steps away, or NO_CELL off the board. */
    private static int cellFrom(int cell, int direction, int steps) {
        int at = cell;
        for (int step = 0; step < steps && step < MOST_STEPS; step++) {
            at = cellBeside(at, direction);
        }
        return at;
    }

    // All rows are read, written and copied by these three, so that no index is used unlooked at.

    private static int read(int[] row, int at) {
        return at >= 0 && at < row.length ? row[at] : 0;
    }

    private static void write(int[] row, int at, int value) {
        if (at >= 0 && at < row.length) {
            row[at] = value;
        }
    }

    private static void copy(int[] from, int[] to) {
        for (int at = 0; at < from.length && at < to.length; at++) {
            to[at] = from[at];
        }
    }

    /** All that undo and restore bring back. */
    private static final class State {
        private final int[] heights = new int[CELLS];
        private final int[] rocks = new int[CELLS];
        private final int[] owners = new int[MOST_BOATS];
        private final int[] drafts = new int[MOST_BOATS];
        private final int[] conditions = new int[MOST_BOATS];
        private final int[] places = new int[MOST_BOATS];
        private final int[] stepsGone = new int[MOST_BOATS];
        private int boats;
        private int boatsRammed;
        private int turn;
        private int lowWater = 1;
        private int riseSteps = 3;
        private int stepTurns = 1;
        private int lastTurn = 60;

        State() {
            for (int cell = 0; cell < CELLS; cell++) {
                write(heights, cell, isHarbour(cell) ? 0 : FIRST_HEIGHT);
            }
        }

        void copyFrom(State other) {
            copy(other.heights, heights);
            copy(other.rocks, rocks);
            copy(other.owners, owners);
            copy(other.drafts, drafts);
            copy(other.conditions, conditions);
            copy(other.places, places);
            copy(other.stepsGone, stepsGone);
            boats = other.boats;
            boatsRammed = other.boatsRammed;
            turn = other.turn;
            lowWater = other.lowWater;
            riseSteps = other.riseSteps;
            stepTurns = other.stepTurns;
            lastTurn = other.lastTurn;
        }

        int settingOf(int which) {
            switch (which) {
                case LOW_WATER: return lowWater;
                case RISE_STEPS: return riseSteps;
                case STEP_TURNS: return stepTurns;
                default: return lastTurn;
            }
        }

        void changeSetting(int which, int value) {
            switch (which) {
                case LOW_WATER: lowWater = value; break;
                case RISE_STEPS: riseSteps = value; break;
                case STEP_TURNS: stepTurns = value; break;
                default: lastTurn = value; break;
            }
        }

        int turnsOfTide() {
            return 2 * riseSteps * stepTurns;
        }

        int tideIn(int turnAsked) {
            int steps = 2 * riseSteps;
            if (stepTurns < 1 || steps < 1) {
                return lowWater;
            }
            int step = turnAsked / stepTurns % steps;
            return lowWater + (step <= riseSteps ? step : steps - step);
        }

        int waterOver(int cell) {
            return Math.max(0, tideIn(turn) - read(heights, cell));
        }

        /** Whether the water over a cell is a draft or more; no draft is below 1. */
        boolean isWet(int cell, int draft, int turnAsked) {
            return tideIn(turnAsked) - read(heights, cell) >= draft;
        }

        boolean isBoat(int boat) {
            return boat >= 0 && boat < boats;
        }

        boolean isOnBoard(int boat) {
            return isBoat(boat) && read(conditions, boat) == ON_BOARD;
        }

        boolean floats(int boat) {
            return isWet(read(places, boat), read(drafts, boat), turn);
        }

        /** Whether a boat is wrecked on its rock as the turn ends, where it is. */
        boolean isWreckedAhead(int boat) {
            int cell = read(places, boat);
            return isOnBoard(boat) && read(rocks, cell) == 1 && isWet(cell, read(drafts, boat), turn)
                && !isWet(cell, read(drafts, boat), turn + 1);
        }

        int boatAt(int cell) {
            for (int boat = 0; boat < boats; boat++) {
                if (read(conditions, boat) == ON_BOARD && read(places, boat) == cell) {
                    return boat;
                }
            }
            return NONE;
        }

        int boatsThatAre(int condition) {
            int found = 0;
            for (int boat = 0; boat < boats; boat++) {
                if (read(conditions, boat) == condition) {
                    found++;
                }
            }
            return found;
        }

        int boatsAground() {
            int found = 0;
            for (int boat = 0; boat < boats; boat++) {
                if (isOnBoard(boat) && !floats(boat)) {
                    found++;
                }
            }
            return found;
        }

        int scoreOf(int player) {
            int score = 0;
            for (int boat = 0; boat < boats; boat++) {
                if (read(owners, boat) == player && read(conditions, boat) == HOME) {
                    score += read(drafts, boat);
                }
            }
            return score;
        }

        int mover() {
            return turn % 2;
        }

        boolean isOver() {
            return turn > lastTurn || boatsThatAre(ON_BOARD) == 0;
        }
    }

    /** What may be done to a state, and what it does. */
    private static final class Rules {
        private final State sea;

        Rules(State state) {
            sea = state;
        }

        int laySand(int cell, int height, boolean rock) {
            if (!isCell(cell)) {
                return UNKNOWN;
            }
            if (height < 0 || height > MOST_HEIGHT) {
                return BAD_VALUE;
            }
            if (isHarbour(cell) || sea.turn != 0) {
                return NOT_POSSIBLE;
            }
            int rocks = rock ? 1 : 0;
            int previous = read(sea.heights, cell);
            if (previous == height && read(sea.rocks, cell) == rocks) {
                return NONE;
            }
            write(sea.heights, cell, height);
            write(sea.rocks, cell, rocks);
            return previous;
        }

        int addBoat(int player, int draft, int cell) {
            if (!isPlayer(player) || !isCell(cell)) {
                return UNKNOWN;
            }
            if (!isDraft(draft)) {
                return BAD_VALUE;
            }
            if (sea.turn != 0 || isHarbour(cell) || sea.boatAt(cell) != NONE) {
                return NOT_POSSIBLE;
            }
            int boat = sea.boats;
            if (boat >= MOST_BOATS) {
                return FULL;
            }
            write(sea.owners, boat, player);
            write(sea.drafts, boat, draft);
            write(sea.conditions, boat, ON_BOARD);
            write(sea.places, boat, cell);
            write(sea.stepsGone, boat, 0);
            sea.boats = boat + 1;
            return boat;
        }

        int changeSetting(int which, int value) {
            if (which < 0 || which >= SETTINGS) {
                return BAD_VALUE;
            }
            if (value < read(LEAST_SETTING, which) || value > read(MOST_SETTING, which)) {
                return BAD_VALUE;
            }
            if (sea.turn != 0) {
                return NOT_POSSIBLE;
            }
            int previous = sea.settingOf(which);
            if (previous == value) {
                return NONE;
            }
            sea.changeSetting(which, value);
            return previous;
        }

        int sail(int boat, int direction, int steps) {
            int error = errorOfMove(boat, direction, steps);
            if (error != 0) {
                return error;
            }
            int reason = reasonAgainst(boat, direction, steps, false);
            if (reason != 0) {
                return MOVE_ERROR - reason;
            }
            int goal = cellFrom(read(sea.places, boat), direction, steps);
            int rammed = ram(sea.boatAt(goal));
            write(sea.stepsGone, boat, read(sea.stepsGone, boat) + steps);
            write(sea.places, boat, goal);
            if (goal == harbourOf(read(sea.owners, boat))) {
                write(sea.conditions, boat, HOME);
            }
            endTurn();
            return rammed;
        }

        int waitATurn() {
            if (sea.isOver()) {
                return NOT_POSSIBLE;
            }
            endTurn();
            return sea.tideIn(sea.turn);
        }

        /** The error of the arguments of a move, or 0. */
        int errorOfMove(int boat, int direction, int steps) {
            if (!sea.isBoat(boat)) {
                return UNKNOWN;
            }
            if (direction < 0 || direction >= DIRECTIONS || steps < 1 || steps > MOST_STEPS) {
                return BAD_VALUE;
            }
            return 0;
        }

        int reasonAgainst(int boat, int direction, int steps, boolean inAnyTurn) {
            if (sea.isOver()) {
                return GAME_OVER;
            }
            if (!sea.isOnBoard(boat)) {
                return NOT_ON_BOARD;
            }
            if (!inAnyTurn && read(sea.owners, boat) != sea.mover()) {
                return OTHER_TURN;
            }
            if (!sea.floats(boat)) {
                return AGROUND;
            }
            if (!isWayOpen(boat, direction, steps)) {
                return NO_WAY;
            }
            return isBoatInWay(boat, direction, steps) ? BOAT_IN_WAY : 0;
        }

        /** How many moves a boat has, whoever's turn it is. */
        int movesOf(int boat) {
            int moves = 0;
            for (int direction = 0; direction < DIRECTIONS; direction++) {
                for (int steps = 1; steps <= MOST_STEPS; steps++) {
                    if (reasonAgainst(boat, direction, steps, true) == 0) {
                        moves++;
                    }
                }
            }
            return moves;
        }

        private boolean isWayOpen(int boat, int direction, int steps) {
            int draft = read(sea.drafts, boat);
            int own = harbourOf(read(sea.owners, boat));
            int cell = read(sea.places, boat);
            for (int step = 1; step <= steps && step <= MOST_STEPS; step++) {
                cell = cellBeside(cell, direction);
                boolean canEnter = cell == own ? step == steps : !isHarbour(cell);
                if (cell == NO_CELL || !canEnter || !sea.isWet(cell, draft, sea.turn)) {
                    return false;
                }
            }
            return true;
        }

        private boolean isBoatInWay(int boat, int direction, int steps) {
            int cell = read(sea.places, boat);
            for (int step = 1; step <= steps && step <= MOST_STEPS; step++) {
                cell = cellBeside(cell, direction);
                int other = sea.boatAt(cell);
                boolean canRam = step == steps && read(sea.owners, other) != read(sea.owners, boat)
                    && !sea.isWet(cell, read(sea.drafts, other), sea.turn);
                if (other != NONE && !canRam) {
                    return true;
                }
            }
            return false;
        }

        /** Wrecks a boat, if there is one, and tells its draft. */
        private int ram(int boat) {
            if (boat == NONE) {
                return 0;
            }
            write(sea.conditions, boat, WRECKED);
            sea.boatsRammed++;
            return read(sea.drafts, boat);
        }

        private void endTurn() {
            for (int boat = 0; boat < sea.boats; boat++) {
                if (sea.isWreckedAhead(boat)) {
                    write(sea.conditions, boat, WRECKED);
                }
            }
            sea.turn++;
        }
    }

    /** Looks for a boat's way home; a set of cells is a number with the bit n for the cell n. */
    private static final class HomeSearch {
        private static final long ALL_CELLS = 0xFFFFFFFFFL;
        private static final long FIRST_COLUMN = 0x041041041L;
        private static final long LAST_COLUMN = 0x820820820L;

        private final State sea;
        private final long[] cellsUpTo = new long[MOST_HEIGHT + 1];
        private long rockCells;
        private long ownHarbour;
        private long otherHarbour;
        private int player;
        private int draft;

        HomeSearch(State state) {
            sea = state;
        }

        /** Reads the board for a boat; the searches below speak of that boat. */
        void prepare(int boat) {
            player = read(sea.owners, boat);
            draft = read(sea.drafts, boat);
            ownHarbour = setOf(harbourOf(player));
            otherHarbour = setOf(harbourOf(1 - player));
            rockCells = 0L;
            for (int height = 0; height < cellsUpTo.length; height++) {
                cellsUpTo[height] = 0L;
            }
            for (int cell = 0; cell < CELLS; cell++) {
                if (read(sea.rocks, cell) == 1) {
                    rockCells |= setOf(cell);
                }
                for (int height = Math.max(0, read(sea.heights, cell)); height < cellsUpTo.length; height++) {
                    cellsUpTo[height] |= setOf(cell);
                }
            }
        }

        /** In how many turns the boat is home from a cell, by the cells where it can be; or NONE. */
        int turnsForwards(int cell, int firstTurn) {
            long cells = setOf(cell);
            for (int turn = firstTurn; turn <= sea.lastTurn && cells != 0L; turn++) {
                if (turn % 2 == player) {
                    cells |= goalsOf(cells, wetCells(turn));
                    if ((cells & ownHarbour) != 0L) {
                        return turn - firstTurn + 1;
                    }
                }
                cells &= ~wreckingCells(turn);
            }
            return NONE;
        }

        /** The same, by the cells from which it comes home in a last turn, for one such turn after the other. */
        int turnsBackwards(int cell, int firstTurn) {
            for (int turn = firstTurn; turn <= sea.lastTurn; turn++) {
                if (turn % 2 == player && (cellsThatLeadHome(firstTurn, turn) & setOf(cell)) != 0L) {
                    return turn - firstTurn + 1;
                }
            }
            return NONE;
        }

        /** In how many turns more the boat is home once it came to a cell in a turn; or NONE. */
        int turnsBehind(int cell, int turn) {
            boolean isWrecked = (wreckingCells(turn) & setOf(cell)) != 0L;
            return isWrecked ? NONE : turnsForwards(cell, turn + 1);
        }

        private long cellsThatLeadHome(int firstTurn, int homeTurn) {
            long cells = startsFor(ownHarbour, wetCells(homeTurn));
            for (int turn = homeTurn - 1; turn >= firstTurn && cells != 0L; turn--) {
                cells &= ~wreckingCells(turn);
                if (turn % 2 == player) {
                    cells |= startsFor(cells, wetCells(turn));
                }
            }
            return cells;
        }

        /** The cells to which one move leads from some of the cells. */
        private long goalsOf(long cells, long wet) {
            long goals = 0L;
            for (int direction = 0; direction < DIRECTIONS; direction++) {
                long front = cells & wet;
                for (int step = 0; step < MOST_STEPS; step++) {
                    front = beside(front & ~ownHarbour, direction) & wet & ~otherHarbour;
                    goals |= front;
                }
            }
            return goals;
        }

        /** The cells from which one move leads to some of the goals. */
        private long startsFor(long goals, long wet) {
            long open = wet & ~ownHarbour & ~otherHarbour;
            long starts = 0L;
            for (int direction = 0; direction < DIRECTIONS; direction++) {
                long front = goals & wet;
                for (int step = 0; step < MOST_STEPS; step++) {
                    front = beside(front, direction) & open;
                    starts |= front;
                }
            }
            return starts;
        }

        /** The cells with water enough for the boat in a turn. */
        private long wetCells(int turn) {
            int highest = Math.min(sea.tideIn(turn) - draft, MOST_HEIGHT);
            return highest >= 0 && highest < cellsUpTo.length ? cellsUpTo[highest] : 0L;
        }

        /** The rocks on which the boat comes aground behind a turn. */
        private long wreckingCells(int turn) {
            return rockCells & wetCells(turn) & ~wetCells(turn + 1);
        }

        private static long setOf(int cell) {
            return isCell(cell) ? 1L << cell : 0L;
        }

        private static long beside(long cells, int direction) {
            switch (direction) {
                case RIGHT: return (cells & ~LAST_COLUMN) << 1;
                case DOWN: return cells << SIDE & ALL_CELLS;
                case LEFT: return (cells & ~FIRST_COLUMN) >>> 1;
                case UP: return cells >>> SIDE;
                default: return 0L;
            }
        }
    }

    /** The states that undo brings back, and the snapshot. */
    private static final class History {
        private final State[] past = new State[MOST_PAST];
        private final State snapshot = new State();
        private int size;
        private boolean hasSnapshot;

        History() {
            for (int at = 0; at < past.length; at++) {
                past[at] = new State();
            }
        }

        void record(State state) {
            if (size >= MOST_PAST) {
                dropOldest();
            }
            State slot = slotAt(size);
            if (slot != null) {
                slot.copyFrom(state);
                size++;
            }
        }

        int takeLatest(State target) {
            State latest = slotAt(size - 1);
            if (latest == null) {
                return NONE;
            }
            target.copyFrom(latest);
            size--;
            return size;
        }

        void takeSnapshot(State state) {
            snapshot.copyFrom(state);
            hasSnapshot = true;
        }

        int giveSnapshot(State target) {
            if (!hasSnapshot) {
                return NONE;
            }
            target.copyFrom(snapshot);
            return target.turn;
        }

        private State slotAt(int at) {
            return at >= 0 && at < past.length ? past[at] : null;
        }

        /** The oldest state's rows become the last slot, so that no new ones are made. */
        private void dropOldest() {
            State oldest = slotAt(0);
            for (int at = 1; at < past.length; at++) {
                past[at - 1] = past[at];
            }
            past[MOST_PAST - 1] = oldest;
            size--;
        }
    }

    /** The text of orders. A kind of order is written as a text with one sign for each place. */
    private static final class Orders {
        private static final char SEPARATOR = ';';
        private static final char ROCK_SIGN = '*';
        private static final char BOAT_SIGN = '+';
        private static final char WAIT_SIGN = 'w';
        // It is allowed at no place, as the end of the text is not.
        private static final char NO_SIGN = (char) 0;

        private static final String COLUMNS = "abcdef";
        private static final String ROWS = "123456";
        private static final String HEIGHTS = "01234";
        private static final String PLAYERS = "01";
        private static final String DRAFTS = "123";
        private static final String BOATS = "0123456789";
        private static final String WAYS = "rdlu";
        private static final String STEPS = "123";

        private static final String SAND_ORDER = "CR=H";
        private static final String BOAT_ORDER = "+PDCR";
        private static final String MOVE_ORDER = "BWS";
        private static final String WAIT_ORDER = "w";

        private final char[] signs = new char[MOST_SIGNS];
        private int length;

        int append(char sign) {
            if (length < 0 || length >= signs.length) {
                return FULL;
            }
            signs[length] = sign;
            length++;
            return length;
        }

        int removeAll() {
            int previous = length;
            length = 0;
            return previous;
        }

        int findFault() {
            int start = 0;
            for (int order = 0; order <= MOST_SIGNS; order++) {
                int end = endOfOrder(start);
                if (end < 0) {
                    return -1 - end;
                }
                if (end >= length) {
                    return NONE;
                }
                if (signAt(end) != SEPARATOR) {
                    return end;
                }
                start = end + 1;
            }
            return length;
        }

        /** The index behind the order that starts here, or -1 minus the index of its fault. */
        int endOfOrder(int start) {
            char first = signAt(start);
            String places = placesOfOrder(first);
            for (int place = 0; place < places.length(); place++) {
                if (!fits(signAt(start + place), places.charAt(place))) {
                    return -1 - (start + place);
                }
            }
            int end = start + places.length();
            return isColumn(first) && isRockAt(end) ? end + 1 : end;
        }

        char signAt(int at) {
            return at >= 0 && at < length && at < signs.length ? signs[at] : NO_SIGN;
        }

        boolean isRockAt(int at) {
            return signAt(at) == ROCK_SIGN;
        }

        int cellAt(int at) {
            return SIDE * ROWS.indexOf(signAt(at + 1)) + COLUMNS.indexOf(signAt(at));
        }

        int heightAt(int at) {
            return HEIGHTS.indexOf(signAt(at));
        }

        int playerAt(int at) {
            return PLAYERS.indexOf(signAt(at));
        }

        int draftAt(int at) {
            return 1 + DRAFTS.indexOf(signAt(at));
        }

        int boatAt(int at) {
            return BOATS.indexOf(signAt(at));
        }

        int directionAt(int at) {
            return WAYS.indexOf(signAt(at));
        }

        int stepsAt(int at) {
            return 1 + STEPS.indexOf(signAt(at));
        }

        static boolean isColumn(char sign) {
            return COLUMNS.indexOf(sign) >= 0;
        }

        private static String placesOfOrder(char first) {
            if (isColumn(first)) {
                return SAND_ORDER;
            }
            if (first == BOAT_SIGN) {
                return BOAT_ORDER;
            }
            return BOATS.indexOf(first) >= 0 ? MOVE_ORDER : WAIT_ORDER;
        }

        private static boolean fits(char sign, char place) {
            String allowed = allowedAt(place);
            return allowed.isEmpty() ? sign == place : allowed.indexOf(sign) >= 0;
        }

        /** The signs of which one stands at a place; none where the place is the sign itself. */
        private static String allowedAt(char place) {
            if (place == 'C') {
                return COLUMNS;
            }
            if (place == 'R') {
                return ROWS;
            }
            if (place == 'H') {
                return HEIGHTS;
            }
            if (place == 'P') {
                return PLAYERS;
            }
            if (place == 'D') {
                return DRAFTS;
            }
            if (place == 'B') {
                return BOATS;
            }
            if (place == 'W') {
                return WAYS;
            }
            return place == 'S' ? STEPS : "";
        }
    }
}
