import java.util.function.Supplier;

/** The sentences on moves and waits: promises 5, 6 and 17. */
public final class GameSentencesTest extends Sentences {
    public static void main(String[] args) {
        moveArguments();
        moveActs();
        moveWays();
        moveWater();
        moveBoatsInTheWay();
        moveRams();
        moveHome();
        moveHarbours();
        moveTurns();
        wrecks();
        wrecksOfAll();
        wrecksOfMovers();
        moveErrors();
        moveOrder();
        pauseAnswers();
        pauseOver();
        whyArguments();
        whyReasons();
        whyOver();
        whyNotOnBoard();
        whyOrder();
        end();
    }

    /** The pair, with a third boat, the player 0's, that went home: the turn 1. */
    private static TideBoats pairAndHome() {
        TideBoats x = pair();
        x.boat(0, 3, 34);
        x.move(2, RIGHT, 1);
        return x;
    }

    private static TideBoats tenBoats() {
        TideBoats x = deep();
        for (int boat = 0; boat < 10; boat++) {
            x.boat(boat % 2, 1, 6 + boat);
        }
        return x;
    }

    /** Water of the depth 1 in the turn 0: the boat 0 in 13, and another in a cell to the right of it. */
    private static TideBoats shallow(int player, int draft, int cell) {
        TideBoats x = flat(0);
        x.boat(0, 1, 13);
        x.boat(player, draft, cell);
        return x;
    }

    /** The turn 1 of the reef, water 1 on the rock 14, that goes: the boat 0 of the player 1 in 13. */
    private static TideBoats besideTheRock() {
        TideBoats x = reef();
        x.boat(1, 1, 13);
        x.boat(0, 1, 31);
        x.pause();
        return x;
    }

    private static void moveArguments() {
        says(5, "`boat`: a boat", () -> {
            refused("boat 0 of none", TideBoats::new, y -> y.move(0, RIGHT, 1), UNKNOWN);
            refused("boat 2 of two", Boards::pair, y -> y.move(2, RIGHT, 1), UNKNOWN);
            for (int boat : OUTSIDE) {
                refused("boat " + boat, Boards::pair, y -> y.move(boat, RIGHT, 1), UNKNOWN);
            }
            Supplier<TideBoats> ten = GameSentencesTest::tenBoats;
            refused("boat 10 of ten", ten, y -> y.move(10, DOWN, 2), UNKNOWN);
            due("boat 8 of ten", ten.get().move(8, DOWN, 2), 0);
            due("boat 9 of ten", later(ten, 1).move(9, DOWN, 2), 0);
        });
        says(5, "`direction`: 0 to 3", () -> {
            for (int direction = 0; direction < 4; direction++) {
                due("direction " + direction, pair().move(0, direction, 1), 0);
            }
            refused("direction 4", Boards::pair, y -> y.move(0, 4, 1), BAD_VALUE);
            for (int direction : OUTSIDE) {
                refused("direction " + direction, Boards::pair, y -> y.move(0, direction, 1), BAD_VALUE);
            }
        });
        says(5, "`steps`: 1 to 3", () -> {
            for (int steps = 1; steps <= 3; steps++) {
                due("steps " + steps, pair().move(0, RIGHT, steps), 0);
            }
            refused("steps 0", Boards::pair, y -> y.move(0, RIGHT, 0), BAD_VALUE);
            refused("steps 4", Boards::pair, y -> y.move(0, DOWN, 4), BAD_VALUE);
            for (int steps : OUTSIDE) {
                refused("steps " + steps, Boards::pair, y -> y.move(0, RIGHT, steps), BAD_VALUE);
            }
        });
    }

    private static void moveActs() {
        says(5, "Moves a boat. This is an act, if it is moved.", () -> {
            act("move", Boards::pair, y -> y.move(0, DOWN, 3), 0);
            act("ram", () -> shallow(1, 2, 14), y -> y.move(0, RIGHT, 1), 2);
            act("move home", () -> later(GameSentencesTest::pairAndHome, 1), y -> y.move(0, RIGHT, 3), 0);
            act("move onto a rock", GameSentencesTest::besideTheRock, y -> y.move(0, RIGHT, 1), 0);
            refused("no move", Boards::pair, y -> y.move(1, RIGHT, 1), -13);
        });
        says(5, "A boat goes 1 to 3 steps in a direction", () -> {
            TideBoats x = pair();
            int went = 0;
            int[] cells = {15, 13, 16};
            int[] directions = {RIGHT, LEFT, RIGHT};
            for (int i = 0; i < cells.length; i++) {
                due("steps " + (i + 1), x.move(0, directions[i], i + 1), 0);
                went += i + 1;
                due("cell", x.boatOf(0, 3), cells[i]);
                due("boat there", x.cellOf(cells[i], 3), 0);
                due("steps that it went", x.boatOf(0, 5), went);
                due("the other stays", x.boatOf(1, 3), 21);
                x.pause();
            }
        });
        says(5, "the directions are 0 to the right, 1 down (the row 1 more), 2 to the left, 3 up", () -> {
            int[] goals = {15, 20, 13, 8};
            for (int direction = 0; direction < 4; direction++) {
                TideBoats x = pair();
                due("direction " + direction, x.move(0, direction, 1), 0);
                due("cell", x.boatOf(0, 3), goals[direction]);
                due("none where it was", x.cellOf(14, 3), NONE);
            }
        });
    }

    /** What a way of so many steps over deep water and no boats leads to: 0, or 5. */
    private static int reasonOfWay(int player, int cell, int direction, int steps) {
        int row = cell / 6 + (direction == DOWN ? steps : direction == UP ? -steps : 0);
        int column = cell % 6 + (direction == RIGHT ? steps : direction == LEFT ? -steps : 0);
        boolean isOn = row >= 0 && row < 6 && column >= 0 && column < 6;
        int otherHarbour = player == 0 ? 0 : 35;
        return isOn && 6 * row + column != otherHarbour ? 0 : 5;
    }

    private static void moveWays() {
        says(5, "Two cells are beside one another if they share a side", () -> {
            int[][] ways = {{11, RIGHT}, {12, LEFT}, {5, RIGHT}, {30, LEFT}, {3, UP}, {32, DOWN}, {5, UP}, {30, DOWN}};
            for (int[] way : ways) {
                for (int i = 1; i <= 3; i++) {
                    int steps = i;
                    refused("from " + way[0] + " by " + way[1], () -> oneBoat(0, way[0]),
                        y -> y.move(0, way[1], steps), -15);
                }
            }
        });
        says(17, "5 the way leads off the board, over its own harbour, or into the other harbour", () -> {
            for (int player = 0; player < 2; player++) {
                for (int cell = 1; cell < 35; cell++) {
                    TideBoats x = inItsTurn(cell, player);
                    for (int i = 0; i < 12; i++) {
                        int steps = 1 + i % 3;
                        due("from " + cell + " by " + i / 3 + ", " + steps, x.why(0, i / 3, steps),
                            reasonOfWay(player, cell, i / 3, steps));
                    }
                }
            }
        });
    }

    private static TideBoats oneBoat(int player, int cell) {
        TideBoats x = deep();
        x.boat(player, 1, cell);
        return x;
    }

    /** One boat in deep water, in the first turn of its player. */
    private static TideBoats inItsTurn(int cell, int player) {
        return later(() -> oneBoat(player, cell), player);
    }

    private static void moveWater() {
        says(5, "the water over each cell that it enters has to be its draft or more", () -> {
            for (int draft = 1; draft <= 3; draft++) {
                for (int step = 1; step <= 3; step++) {
                    for (int steps = 1; steps <= 3; steps++) {
                        TideBoats x = oneHigher(draft, 13 + step, 3 - draft);
                        due("draft " + draft + ", so much water", x.move(0, RIGHT, steps), 0);
                        TideBoats y = oneHigher(draft, 13 + step, 3 - draft + 1);
                        due("draft " + draft + ", 1 less", y.move(0, RIGHT, steps), step <= steps ? -15 : 0);
                    }
                }
            }
        });
        says(17, "or there is not water enough in a cell that it enters", () -> {
            for (int step = 1; step <= 3; step++) {
                int high = 13 + step;
                told("no water in " + high, () -> oneHigher(2, high, 2), y -> y.why(0, RIGHT, 3), 5);
                told("water in " + high, () -> oneHigher(2, high, 1), y -> y.why(0, RIGHT, 3), 0);
            }
            told("none in the next cell", () -> oneHigher(2, 17, 4), y -> y.why(0, RIGHT, 3), 0);
        });
    }

    /** The tide 3, a boat in 13, and a cell of sand among flat ones. */
    private static TideBoats oneHigher(int draft, int cell, int height) {
        TideBoats x = deep();
        x.boat(0, draft, 13);
        x.sand(cell, height, false);
        return x;
    }

    private static void moveBoatsInTheWay() {
        says(5, "and no boat may be there, but in the last of these cells a boat of the other player", () -> {
            for (int step = 1; step <= 3; step++) {
                int at = 13 + step;
                for (int steps = step; steps <= 3; steps++) {
                    int far = steps;
                    refused("a boat of its own, afloat", () -> shallow(0, 1, at), y -> y.move(0, RIGHT, far), -16);
                    refused("a boat of its own, aground", () -> shallow(0, 2, at), y -> y.move(0, RIGHT, far), -16);
                    refused("the other's, afloat", () -> shallow(1, 1, at), y -> y.move(0, RIGHT, far), -16);
                    if (steps > step) {
                        refused("the other's, aground", () -> shallow(1, 3, at), y -> y.move(0, RIGHT, far), -16);
                    }
                }
                for (int steps = 1; steps < step; steps++) {
                    due("a boat behind the last cell", shallow(0, 2, at).move(0, RIGHT, steps), 0);
                }
            }
            due("a boat beside the way", shallow(0, 1, 20).move(0, RIGHT, 3), 0);
        });
    }

    private static void moveRams() {
        says(5, "a boat of the other player that is aground: that is rammed, and wrecked", () -> {
            for (int steps = 1; steps <= 3; steps++) {
                int at = 13 + steps;
                TideBoats x = shallow(1, 3, at);
                due("ram by " + steps, x.move(0, RIGHT, steps), 3);
                due("how it is", x.boatOf(1, 2), WRECKED);
                due("its cell", x.boatOf(1, 3), NONE);
                due("the boat there", x.cellOf(at, 3), 0);
                due("how the other is", x.boatOf(0, 2), ON_BOARD);
                due("rammed so far", x.count(10), 1);
            }
        });
        says(5, "A boat on the board floats in a turn if the water over its cell is its draft or more", () -> {
            for (int draft = 1; draft <= 3; draft++) {
                TideBoats x = deep();
                x.boat(0, 1, 13);
                x.boat(1, draft, 14);
                x.sand(14, 3 - draft, false);
                due("so much water below the other", x.why(0, RIGHT, 1), 6);
                x.sand(14, 3 - draft + 1, false);
                due("1 less", x.why(0, RIGHT, 1), draft == 1 ? 5 : 0);
            }
        });
        says(5, "Returns the draft of the boat that is rammed, 0 if none is", () -> {
            due("draft 2", shallow(1, 2, 14).move(0, RIGHT, 1), 2);
            due("draft 3", shallow(1, 3, 14).move(0, RIGHT, 1), 3);
            due("none", shallow(1, 3, 14).move(0, DOWN, 1), 0);
            due("one that is beyond", shallow(1, 3, 15).move(0, RIGHT, 1), 0);
            TideBoats x = shallow(1, 3, 15);
            x.set(0, 2);
            x.boat(0, 2, 27);
            due("the draft of the other, not of its own", x.move(2, UP, 2), 3);
        });
    }

    private static void moveHome() {
        says(5, "A boat that comes into the harbour of its own player is home", () -> {
            int[][] cells = {{34, 33, 32, 29, 23, 17}, {1, 2, 3, 6, 12, 18}};
            int[][] directions = {{RIGHT, DOWN}, {LEFT, UP}};
            for (int player = 0; player < 2; player++) {
                for (int i = 0; i < 6; i++) {
                    TideBoats x = inItsTurn(cells[player][i], player);
                    int direction = directions[player][i / 3];
                    due("way home from " + cells[player][i], x.move(0, direction, 1 + i % 3), 0);
                    due("how it is", x.boatOf(0, 2), HOME);
                    due("its cell", x.boatOf(0, 3), NONE);
                    due("no boat in the harbour", x.cellOf(player == 0 ? 35 : 0, 3), NONE);
                    due("score", x.count(3 + player), 1);
                    due("score of the other", x.count(4 - player), 0);
                }
            }
        });
        says(5, "The harbour of the player 0 is the cell 35, that of the player 1 the cell 0", () -> {
            TideBoats x = deep();
            x.boat(0, 1, 29);
            x.boat(1, 1, 6);
            x.move(0, DOWN, 1);
            due("the player 0's in 35", x.boatOf(0, 2), HOME);
            x.move(1, UP, 1);
            due("the player 1's in 0", x.boatOf(1, 2), HOME);
        });
        says(5, "The score of a player is the drafts of its boats that are home, together.", () -> {
            TideBoats x = deep();
            x.boat(0, 3, 34);
            x.boat(1, 2, 1);
            x.boat(0, 2, 29);
            x.boat(1, 3, 14);
            due("first", x.move(0, RIGHT, 1), 0);
            due("the other player's", x.move(1, LEFT, 1), 0);
            due("second, into the same harbour", x.move(2, DOWN, 1), 0);
            due("score of the player 0", x.count(3), 5);
            due("score of the player 1", x.count(4), 2);
        });
    }

    private static void moveHarbours() {
        says(5, "it stops there; it cannot go farther in this move", () -> {
            for (int steps = 2; steps <= 3; steps++) {
                int far = steps;
                refused("from 34", () -> inItsTurn(34, 0), y -> y.move(0, RIGHT, far), -15);
                refused("from 29", () -> inItsTurn(29, 0), y -> y.move(0, DOWN, far), -15);
                refused("from 1", () -> inItsTurn(1, 1), y -> y.move(0, LEFT, far), -15);
                refused("from 6", () -> inItsTurn(6, 1), y -> y.move(0, UP, far), -15);
            }
            refused("from 33", () -> inItsTurn(33, 0), y -> y.move(0, RIGHT, 3), -15);
            refused("from 12", () -> inItsTurn(12, 1), y -> y.move(0, UP, 3), -15);
        });
        says(5, "The harbour of the other player cannot be entered.", () -> {
            int[][] cells = {{1, 2, 3, 6, 12, 18}, {34, 33, 32, 29, 23, 17}};
            int[][] directions = {{LEFT, UP}, {RIGHT, DOWN}};
            for (int i = 0; i < 12; i++) {
                int player = i / 6;
                int cell = cells[player][i % 6];
                int direction = directions[player][i % 6 / 3];
                int steps = 1 + i % 3;
                refused("from " + cell, () -> inItsTurn(cell, player), y -> y.move(0, direction, steps), -15);
                if (steps > 1) {
                    due("up to it from " + cell, inItsTurn(cell, player).move(0, direction, steps - 1), 0);
                }
            }
        });
    }

    private static void moveTurns() {
        says(5, "Behind a move, or a wait, the turn is 1 more.", () -> {
            TideBoats x = pair();
            x.boat(0, 1, 34);
            x.move(0, DOWN, 3);
            due("behind a move", x.count(0), 1);
            x.move(1, LEFT, 3);
            due("behind two", x.count(0), 2);
            x.move(2, RIGHT, 1);
            due("behind a move home", x.count(0), 3);
            x.pause();
            due("behind a wait", x.count(0), 4);
            TideBoats y = shallow(1, 3, 14);
            y.move(0, RIGHT, 1);
            due("behind a ram", y.count(0), 1);
            y.move(1, RIGHT, 1);
            due("behind no move", y.count(0), 1);
        });
        says(5, "In its turn a player moves one boat, or waits.", () -> {
            TideBoats x = deep();
            x.boat(0, 1, 14);
            x.boat(0, 1, 21);
            x.boat(1, 1, 26);
            due("one boat", x.move(0, UP, 1), 0);
            due("a second one in the same turn", x.move(1, UP, 1), -13);
            due("the same one again", x.move(0, DOWN, 1), -13);
            due("the other player waits", x.pause(), 5);
            due("the second one in the next turn", x.move(1, UP, 1), 0);
        });
        says(5, "in even ones it is the player 0's turn, in odd ones the player 1's", () -> {
            TideBoats x = pair();
            for (int turn = 0; turn < 6; turn++) {
                due("whose turn is " + turn, x.count(1), turn % 2);
                due("the other player's boat in " + turn, x.move(1 - turn % 2, UP, 1), -13);
                due("the player's boat in " + turn, x.move(turn % 2, turn % 4 < 2 ? DOWN : UP, 1), 0);
            }
        });
    }

    /** A boat of the player 0 on a cell with the water 0, 0, 1, 2, 1, 0 in the turns of a tide. */
    private static TideBoats onRock(boolean rock) {
        TideBoats x = new TideBoats();
        x.sand(14, 2, rock);
        x.boat(0, 1, 14);
        x.boat(1, 1, 31);
        return x;
    }

    private static void wrecks() {
        says(5, "each boat on the board that stands on a rock, and floated in the turn before, and is aground now", () -> {
            TideBoats x = onRock(true);
            int[] floats = {0, 0, 1, 1, 1};
            for (int turn = 0; turn < floats.length; turn++) {
                due("how it is in " + turn, x.boatOf(0, 2), ON_BOARD);
                due("whether it floats in " + turn, x.boatOf(0, 4), floats[turn]);
                x.pause();
            }
            due("how it is in 5", x.boatOf(0, 2), WRECKED);
            due("its cell", x.boatOf(0, 3), NONE);
            due("the boat on the rock", x.cellOf(14, 3), NONE);
            due("wrecked", x.count(8), 1);
            due("rammed", x.count(10), 0);
        });
        says(5, "that stands on a rock", () -> {
            TideBoats x = onRock(false);
            for (int turn = 0; turn < 14; turn++) {
                x.pause();
                due("how it is on sand", x.boatOf(0, 2), ON_BOARD);
            }
            due("wrecked", x.count(8), 0);
        });
        says(5, "and floated in the turn before", () -> {
            // Draft 3 on a rock of the height 2: never afloat, so never wrecked.
            TideBoats x = new TideBoats();
            x.sand(14, 2, true);
            x.boat(0, 3, 14);
            for (int turn = 0; turn < 14; turn++) {
                x.pause();
                due("how it is", x.boatOf(0, 2), ON_BOARD);
            }
        });
        says(5, "and is aground now, is wrecked", () -> {
            // Steps of 2 turns: the water goes only with each second turn.
            TideBoats x = onRock(true);
            x.set(2, 2);
            pauses(x, 9);
            due("the last turn of its water", x.boatOf(0, 4), 1);
            due("how it is", x.boatOf(0, 2), ON_BOARD);
            x.pause();
            due("how it is then", x.boatOf(0, 2), WRECKED);
        });
    }

    private static void wrecksOfAll() {
        says(5, "Then each boat on the board", () -> {
            TideBoats x = reef();
            for (int cell = 12; cell < 22; cell++) {
                x.sand(cell, 1, true);
                x.boat(cell % 2, 1, cell);
            }
            due("aground at first", x.count(9), 10);
            x.pause();
            due("afloat then", x.count(9), 0);
            due("the water goes", x.pause(), 1);
            due("wrecked", x.count(8), 10);
            due("over", x.count(11), 1);
        });
        says(5, "Behind a move, or a wait", () -> {
            TideBoats x = reef();
            x.boat(0, 1, 14);
            x.boat(1, 1, 31);
            x.pause();
            due("another boat's move", x.move(1, RIGHT, 1), 0);
            due("how it is", x.boatOf(0, 2), WRECKED);
            TideBoats y = reef();
            y.boat(1, 1, 14);
            y.pause();
            due("its own player waits", y.pause(), 1);
            due("how it is", y.boatOf(0, 2), WRECKED);
        });
    }

    private static void wrecksOfMovers() {
        says(5, "Then each boat on the board that stands on a rock", () -> {
            TideBoats x = besideTheRock();
            due("onto the rock", x.move(0, RIGHT, 1), 0);
            due("how it is", x.boatOf(0, 2), WRECKED);
            due("steps that it went", x.boatOf(0, 5), 1);
            TideBoats y = besideTheRock();
            due("over the rock", y.move(0, RIGHT, 3), 0);
            due("how it is behind the rock", y.boatOf(0, 2), ON_BOARD);
            TideBoats z = reef();
            z.boat(1, 1, 14);
            z.pause();
            due("off the rock", z.move(0, LEFT, 1), 0);
            due("how it is beside the rock", z.boatOf(0, 2), ON_BOARD);
        });
        says(5, "is rammed, and wrecked", () -> {
            TideBoats x = reef();
            x.boat(1, 1, 13);
            x.boat(0, 3, 14);
            x.pause();
            due("ram on the rock", x.move(0, RIGHT, 1), 3);
            due("how the rammed one is", x.boatOf(1, 2), WRECKED);
            due("how the other is, as the water goes", x.boatOf(0, 2), WRECKED);
            due("rammed", x.count(10), 1);
            due("wrecked", x.count(8), 2);
        });
    }

    private static void moveErrors() {
        says(5, "-10 minus the reason 1 to 6 if it cannot be moved so (which is an error)", () -> {
            refused("1, over by the turn", Boards::pairAtTheEnd, y -> y.move(1, UP, 1), -11);
            refused("1, over by the boats", GameSentencesTest::allHome, y -> y.move(0, UP, 1), -11);
            refused("2", () -> later(GameSentencesTest::pairAndHome, 1), y -> y.move(2, LEFT, 1), -12);
            refused("3", Boards::pair, y -> y.move(1, UP, 1), -13);
            refused("4", () -> shallowBoat(2), y -> y.move(0, UP, 1), -14);
            refused("5", Boards::pair, y -> y.move(0, UP, 3), -15);
            refused("6", () -> shallow(0, 1, 14), y -> y.move(0, RIGHT, 1), -16);
        });
    }

    private static TideBoats allHome() {
        TideBoats x = inItsTurn(34, 0);
        x.move(0, RIGHT, 1);
        return x;
    }

    /** A boat in water of the depth 1. */
    private static TideBoats shallowBoat(int draft) {
        TideBoats x = flat(0);
        x.boat(0, draft, 13);
        return x;
    }

    private static void moveOrder() {
        says(5, "UNKNOWN; BAD_VALUE; -10 minus the reason 1 to 6", () -> {
            refused("boat ahead of direction", Boards::pair, y -> y.move(2, 4, 1), UNKNOWN);
            refused("boat ahead of steps", Boards::pair, y -> y.move(-1, RIGHT, 4), UNKNOWN);
            refused("boat ahead of a game that is over", Boards::pairAtTheEnd, y -> y.move(2, UP, 1), UNKNOWN);
            refused("boat ahead of no boats", TideBoats::new, y -> y.move(0, 4, 4), UNKNOWN);
            refused("direction ahead of 1", Boards::pairAtTheEnd, y -> y.move(1, 4, 1), BAD_VALUE);
            refused("steps ahead of 1", Boards::pairAtTheEnd, y -> y.move(1, UP, 0), BAD_VALUE);
            refused("direction ahead of 2", () -> later(GameSentencesTest::pairAndHome, 1), y -> y.move(2, -1, 1), BAD_VALUE);
            refused("steps ahead of 3", Boards::pair, y -> y.move(1, UP, 4), BAD_VALUE);
            refused("steps ahead of 4", () -> shallowBoat(2), y -> y.move(0, UP, 4), BAD_VALUE);
            refused("steps ahead of 5", () -> inItsTurn(6, 0), y -> y.move(0, LEFT, 4), BAD_VALUE);
            refused("direction ahead of 6", () -> shallow(0, 1, 14), y -> y.move(0, 4, 1), BAD_VALUE);
        });
    }

    private static void pauseAnswers() {
        says(6, "The player whose turn it is waits. This is an act.", () -> {
            act("pause", Boards::pair, TideBoats::pause, 4);
            act("pause of the player 1", () -> later(Boards::pair, 1), TideBoats::pause, 5);
            act("pause that wrecks", GameSentencesTest::besideTheRock, TideBoats::pause, 1);
            TideBoats x = inItsTurn(14, 0);
            due("a wait of the player 0", x.pause(), 4);
            due("a wait of a player without boats", x.pause(), 5);
            due("whose turn", x.count(1), 0);
        });
        says(6, "The turns are numbered from 0", () -> {
            TideBoats x = pair();
            due("the first turn", x.count(0), 0);
            x.pause();
            due("the second turn", x.count(0), 1);
        });
        says(6, "Returns the tide then", () -> {
            TideBoats x = pair();
            int[] tides = {4, 5, 6, 5, 4, 3, 4, 5, 6, 5, 4, 3, 4};
            for (int turn = 1; turn <= tides.length; turn++) {
                due("tide of " + turn, x.pause(), tides[turn - 1]);
                due("tide told in " + turn, x.count(2), tides[turn - 1]);
            }
            TideBoats y = pair();
            y.set(1, 1);
            y.set(2, 3);
            int[] slow = {3, 3, 4, 4, 4, 3, 3, 3, 4};
            for (int turn = 1; turn <= slow.length; turn++) {
                due("slow tide of " + turn, y.pause(), slow[turn - 1]);
            }
        });
    }

    private static void pauseOver() {
        says(6, "NOT_POSSIBLE if the game is over", () -> {
            refused("behind the last turn", Boards::pairAtTheEnd, TideBoats::pause, NOT_POSSIBLE);
            refused("all home", GameSentencesTest::allHome, TideBoats::pause, NOT_POSSIBLE);
            TideBoats x = reef();
            x.boat(0, 1, 14);
            pauses(x, 2);
            due("all wrecked", x.pause(), NOT_POSSIBLE);
            due("turn", x.count(0), 2);
        });
        says(6, "The game is over when the turn is more than the setting 3", () -> {
            for (int last : new int[] {10, 11, 60, 99}) {
                TideBoats x = pair();
                x.set(3, last);
                pauses(x, last);
                due("turn", x.count(0), last);
                due("over in the last turn", x.count(11), 0);
                due("a wait in the last turn", x.pause(), x.tide(last + 1));
                due("over behind it", x.count(11), 1);
                due("a wait then", x.pause(), NOT_POSSIBLE);
                due("turn then", x.count(0), last + 1);
                x.undo();
                due("over behind an undo", x.count(11), 0);
                due("a move in the last turn", x.move(last % 2, UP, 1), 0);
            }
        });
        says(6, "or no boat is on the board (also before any came)", () -> {
            refused("before any came", TideBoats::new, TideBoats::pause, NOT_POSSIBLE);
            TideBoats x = new TideBoats();
            x.boat(1, 3, 7);
            due("one of the player 1, aground", x.pause(), 2);
            x.undo();
            x.undo();
            due("behind the undo of the only one", x.pause(), NOT_POSSIBLE);
        });
    }

    private static void whyArguments() {
        says(17, "`boat`: a boat", () -> {
            told("boat 0 of none", TideBoats::new, y -> y.why(0, RIGHT, 1), UNKNOWN);
            told("boat 2 of two", Boards::pair, y -> y.why(2, RIGHT, 1), UNKNOWN);
            told("boat 10 of ten", GameSentencesTest::tenBoats, y -> y.why(10, RIGHT, 1), UNKNOWN);
            told("boat 9 of ten", () -> later(GameSentencesTest::tenBoats, 1), y -> y.why(9, DOWN, 2), 0);
            for (int boat : OUTSIDE) {
                told("boat " + boat, Boards::pair, y -> y.why(boat, RIGHT, 1), UNKNOWN);
            }
        });
        says(17, "`direction`: 0 to 3", () -> {
            for (int direction = 0; direction < 4; direction++) {
                due("direction " + direction, pair().why(0, direction, 1), 0);
            }
            told("direction 4", Boards::pair, y -> y.why(0, 4, 1), BAD_VALUE);
            for (int direction : OUTSIDE) {
                told("direction " + direction, Boards::pair, y -> y.why(0, direction, 1), BAD_VALUE);
            }
        });
        says(17, "`steps`: 1 to 3", () -> {
            for (int steps = 1; steps <= 3; steps++) {
                due("steps " + steps, pair().why(0, RIGHT, steps), 0);
            }
            told("steps 0", Boards::pair, y -> y.why(0, RIGHT, 0), BAD_VALUE);
            told("steps 4", Boards::pair, y -> y.why(0, DOWN, 4), BAD_VALUE);
            for (int steps : OUTSIDE) {
                told("steps " + steps, Boards::pair, y -> y.why(0, RIGHT, steps), BAD_VALUE);
            }
        });
        says(17, "UNKNOWN; BAD_VALUE", () -> {
            told("boat ahead of direction", Boards::pair, y -> y.why(2, 4, 1), UNKNOWN);
            told("boat ahead of steps", Boards::pair, y -> y.why(-1, RIGHT, 0), UNKNOWN);
            told("boat ahead of over", TideBoats::new, y -> y.why(0, RIGHT, 4), UNKNOWN);
            told("direction ahead of over", Boards::pairAtTheEnd, y -> y.why(1, -1, 1), BAD_VALUE);
            told("steps ahead of the other's turn", Boards::pair, y -> y.why(1, UP, 4), BAD_VALUE);
        });
    }

    /** Each boat's moves, each on a board of its own: what move() answers goes with what why() tells. */
    private static void moveIsAsWhy(String what, Supplier<TideBoats> board) {
        for (int boat = 0; boat < board.get().count(5); boat++) {
            for (int direction = 0; direction < 4; direction++) {
                for (int steps = 1; steps <= 3; steps++) {
                    TideBoats x = board.get();
                    int reason = x.why(boat, direction, steps);
                    int answer = x.move(boat, direction, steps);
                    String call = what + ", boat " + boat + " " + direction + " by " + steps;
                    due(call, answer < 0 ? answer : 0, reason == 0 ? 0 : -10 - reason);
                }
            }
        }
    }

    private static void whyReasons() {
        says(17, "Tells why a boat cannot be moved so.", () -> {
            moveIsAsWhy("two boats", Boards::pair);
            moveIsAsWhy("two boats, the other turn", () -> later(Boards::pair, 1));
            moveIsAsWhy("over", Boards::pairAtTheEnd);
            moveIsAsWhy("home and rammed", Boards::fates);
            moveIsAsWhy("home and rammed, later", () -> later(Boards::fates, 1));
            moveIsAsWhy("beside one that it can ram", () -> shallow(1, 2, 14));
            moveIsAsWhy("beside one of its own", () -> shallow(0, 2, 14));
        });
        says(17, "0 if it can", () -> {
            told("a move", Boards::pair, y -> y.why(0, RIGHT, 3), 0);
            told("a ram", () -> shallow(1, 2, 14), y -> y.why(0, RIGHT, 1), 0);
            told("home", () -> inItsTurn(34, 0), y -> y.why(0, RIGHT, 1), 0);
            told("onto a rock as the water goes", GameSentencesTest::besideTheRock, y -> y.why(0, RIGHT, 1), 0);
        });
        says(17, "3 it is the other player's turn", () -> {
            told("in the turn 0", Boards::pair, y -> y.why(1, UP, 1), 3);
            told("in the turn 1", () -> later(Boards::pair, 1), y -> y.why(0, DOWN, 1), 3);
            told("its own turn 1", () -> later(Boards::pair, 1), y -> y.why(1, DOWN, 1), 0);
        });
        says(17, "4 it is aground", () -> {
            for (int draft = 1; draft <= 3; draft++) {
                int own = draft;
                told("so much water", () -> oneHigher(own, 13, 3 - own), y -> y.why(0, RIGHT, 1), 0);
                told("1 less", () -> oneHigher(own, 13, 3 - own + 1), y -> y.why(0, RIGHT, 1), 4);
            }
            TideBoats x = new TideBoats();
            x.sand(14, 4, false);
            x.boat(0, 1, 14);
            pauses(x, 2);
            due("water that is not below 0", x.why(0, RIGHT, 1), 4);
        });
        says(17, "6 a boat is in the way", () -> {
            told("its own", () -> shallow(0, 2, 14), y -> y.why(0, RIGHT, 1), 6);
            told("the other's afloat", () -> shallow(1, 1, 15), y -> y.why(0, RIGHT, 2), 6);
            told("the other's aground, not last", () -> shallow(1, 2, 14), y -> y.why(0, RIGHT, 2), 6);
            told("behind the last cell", () -> shallow(1, 1, 15), y -> y.why(0, RIGHT, 1), 0);
        });
    }

    private static void whyOver() {
        says(17, "1 the game is over", () -> {
            told("in the last turn", () -> later(Boards::pair, 60), y -> y.why(0, DOWN, 1), 0);
            told("behind it", () -> later(Boards::pair, 61), y -> y.why(1, DOWN, 1), 1);
            told("ahead of 2, all home", GameSentencesTest::allHome, y -> y.why(0, LEFT, 1), 1);
            told("ahead of 2, one home", () -> later(GameSentencesTest::pairAndHome, 60), y -> y.why(2, LEFT, 1), 1);
            told("ahead of 3", Boards::pairAtTheEnd, y -> y.why(0, DOWN, 1), 1);
            told("ahead of 5", Boards::pairAtTheEnd, y -> y.why(1, RIGHT, 3), 1);
            told("ahead of 6", () -> later(GameSentencesTest::tenBoats, 61), y -> y.why(1, RIGHT, 1), 1);
            // The turn 65 has the tide 2 of the turn 5, too low for a draft of 3.
            TideBoats x = flat(0);
            x.set(3, 64);
            x.boat(1, 3, 14);
            pauses(x, 65);
            due("aground", x.boatOf(0, 4), 0);
            due("ahead of 4", x.why(0, RIGHT, 1), 1);
        });
    }

    private static void whyNotOnBoard() {
        says(17, "2 it is not on the board", () -> {
            told("ahead of 3", GameSentencesTest::pairAndHome, y -> y.why(2, LEFT, 1), 2);
            told("home", () -> later(GameSentencesTest::pairAndHome, 1), y -> y.why(2, LEFT, 1), 2);
            told("ahead of 5", () -> later(GameSentencesTest::pairAndHome, 1), y -> y.why(2, RIGHT, 1), 2);
            TideBoats x = shallow(1, 2, 14);
            x.boat(1, 1, 15);
            x.move(0, RIGHT, 1);
            due("rammed", x.why(1, DOWN, 1), 2);
            due("ahead of 6", x.why(1, RIGHT, 1), 2);
            due("of the other player in its turn", x.why(2, DOWN, 1), 0);
            TideBoats y = reef();
            y.boat(0, 1, 14);
            y.boat(1, 1, 31);
            pauses(y, 2);
            due("ahead of 4, wrecked on a rock", y.why(0, LEFT, 1), 2);
        });
    }

    private static void whyOrder() {
        says(17, "Returns the first of these that is so", () -> {
            told("3 ahead of 4", () -> shallow(1, 2, 20), y -> y.why(1, DOWN, 1), 3);
            told("3 ahead of 5", Boards::pair, y -> y.why(1, RIGHT, 3), 3);
            told("3 ahead of 6", () -> shallow(1, 1, 14), y -> y.why(1, LEFT, 1), 3);
            told("4 ahead of 5", () -> shallowBoat(2), y -> y.why(0, UP, 3), 4);
            told("4 ahead of 6", () -> groundedPair(), y -> y.why(0, RIGHT, 1), 4);
            told("4 ahead of a ram", () -> groundedPair(), y -> y.why(0, LEFT, 1), 4);
        });
        says(17, "each looked at for the whole way ahead of the next one", () -> {
            told("a boat, then the edge", () -> edge(0, 1), y -> y.why(0, RIGHT, 3), 5);
            told("the other's aground, then the edge", () -> edge(1, 2), y -> y.why(0, RIGHT, 3), 5);
            told("a boat alone", () -> edge(0, 1), y -> y.why(0, RIGHT, 2), 6);
            told("a boat, then no water", () -> highBehind(15), y -> y.why(0, RIGHT, 2), 5);
            told("a boat, then water, then none", () -> highBehind(16), y -> y.why(0, RIGHT, 3), 5);
            told("a boat, no water behind the way", () -> highBehind(16), y -> y.why(0, RIGHT, 2), 6);
            told("a boat where there is no water", () -> highBehind(14), y -> y.why(0, RIGHT, 1), 5);
            told("a boat, then the other harbour", () -> otherHarbour(), y -> y.why(0, LEFT, 2), 5);
        });
    }

    /** The boat 0 with draft 2 in water 1, between a boat of each player. */
    private static TideBoats groundedPair() {
        TideBoats x = shallowBoat(2);
        x.boat(0, 1, 14);
        x.boat(1, 2, 12);
        return x;
    }

    /** The boat 0 in 9, another in 10; the row ends with 11. */
    private static TideBoats edge(int player, int draft) {
        TideBoats x = flat(0);
        x.boat(0, 1, 9);
        x.boat(player, draft, 10);
        return x;
    }

    /** The boat 0 in 13, one of the other player in 14, and a high sand. */
    private static TideBoats highBehind(int cell) {
        TideBoats x = shallow(1, 1, 14);
        x.sand(cell, 4, false);
        return x;
    }

    private static TideBoats otherHarbour() {
        TideBoats x = flat(0);
        x.boat(0, 1, 2);
        x.boat(1, 1, 1);
        return x;
    }
}
