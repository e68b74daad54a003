import java.util.function.Supplier;

/** Words, boards and texts that the tests share. */
abstract class Boards {
    static final int UNKNOWN = TideBoats.UNKNOWN;
    static final int BAD_VALUE = TideBoats.BAD_VALUE;
    static final int FULL = TideBoats.FULL;
    static final int NOT_POSSIBLE = TideBoats.NOT_POSSIBLE;
    static final int NONE = TideBoats.NONE;

    static final int RIGHT = 0;
    static final int DOWN = 1;
    static final int LEFT = 2;
    static final int UP = 3;

    static final int ON_BOARD = 0;
    static final int HOME = 1;
    static final int WRECKED = 2;

    /** Numbers that are no cell, no boat, no player, and in no range. */
    static final int[] OUTSIDE = {Integer.MIN_VALUE, Integer.MIN_VALUE + 1, -1, Integer.MAX_VALUE};

    /** All sands 0, low water 3: all boats float everywhere, always. */
    static TideBoats deep() {
        TideBoats x = flat(0);
        x.set(0, 3);
        return x;
    }

    /** All sands of one height. */
    static TideBoats flat(int height) {
        TideBoats x = new TideBoats();
        for (int cell = 1; cell < 35; cell++) {
            x.sand(cell, height, false);
        }
        return x;
    }

    /** Deep water, the boat 0 of the player 0 in 14, the boat 1 of the player 1 in 21. */
    static TideBoats pair() {
        TideBoats x = deep();
        x.boat(0, 1, 14);
        x.boat(1, 2, 21);
        return x;
    }

    /** The same behind its last turn: it is over in the turn 11, the player 1's. */
    static TideBoats pairAtTheEnd() {
        TideBoats x = pair();
        x.set(3, 10);
        pauses(x, 11);
        return x;
    }

    /** The boat 0 is home, the boat 1 rammed by the boat 2; the turn 3; no draft above 2 ever floats. */
    static TideBoats fates() {
        TideBoats x = flat(0);
        x.set(1, 1);
        x.boat(0, 1, 34);
        x.boat(1, 3, 14);
        x.boat(0, 1, 13);
        x.boat(1, 1, 31);
        x.move(2, RIGHT, 1);
        x.pause();
        x.move(0, RIGHT, 1);
        return x;
    }

    /** The tide 1, 2, 1, 2 ..: what floats on a rock only at 2 is wrecked at 1. */
    static TideBoats reef() {
        TideBoats x = new TideBoats();
        x.set(1, 1);
        x.sand(14, 1, true);
        x.sand(15, 0, true);
        return x;
    }

    static void write(TideBoats x, String text) {
        x.clearText();
        for (int i = 0; i < text.length(); i++) {
            x.type(text.charAt(i));
        }
    }

    static void pauses(TideBoats x, int times) {
        for (int i = 0; i < times; i++) {
            x.pause();
        }
    }

    /** A board, and some turns in which the players wait. */
    static TideBoats later(Supplier<TideBoats> board, int turns) {
        TideBoats x = board.get();
        pauses(x, turns);
        return x;
    }
}
