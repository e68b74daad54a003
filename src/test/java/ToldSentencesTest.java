/** The sentences on what is told of cells, boats, tides and the game: promises 14 to 16, 18 and 19. */
public final class ToldSentencesTest extends Sentences {
    public static void main(String[] args) {
        cellArguments();
        cellNumbers();
        cellBoats();
        boatArguments();
        boatNumbers();
        boatsAground();
        boatsNotOnBoard();
        boatMoves();
        tideArguments();
        tideNumbers();
        countArguments();
        countsOfBoats();
        countsOfTheGame();
        countsOfTheRest();
        afloatArguments();
        afloatShares();
        end();
    }

    private static TideBoats settings(int low, int rise, int span) {
        TideBoats x = new TideBoats();
        x.set(0, low);
        x.set(1, rise);
        x.set(2, span);
        return x;
    }

    private static void cellArguments() {
        says(14, "the cell 6 * row + column has the row 0 to 5 and the column 0 to 5", () -> {
            TideBoats x = new TideBoats();
            for (int row = 0; row < 6; row++) {
                for (int column = 0; column < 6; column++) {
                    due("water of the row " + row + " and column " + column, x.cellOf(6 * row + column, 2),
                        row + column == 0 || row + column == 10 ? 1 : 0);
                }
            }
            due("a row 6", x.cellOf(6 * 6, 2), UNKNOWN);
        });
        says(14, "`cell`: 0 to 35", () -> {
            for (int cell = 0; cell < 36; cell++) {
                due("height of " + cell, pair().cellOf(cell, 0), 0);
            }
            told("cell 36", Boards::pair, y -> y.cellOf(36, 0), UNKNOWN);
            for (int cell : OUTSIDE) {
                told("cell " + cell, Boards::pair, y -> y.cellOf(cell, 0), UNKNOWN);
            }
        });
        says(14, "Returns the number; UNKNOWN; BAD_VALUE.", () -> {
            told("what 4", Boards::pair, y -> y.cellOf(14, 4), BAD_VALUE);
            told("what 4 of a harbour", Boards::pair, y -> y.cellOf(0, 4), BAD_VALUE);
            for (int what : OUTSIDE) {
                told("what " + what, Boards::pair, y -> y.cellOf(35, what), BAD_VALUE);
            }
            told("cell ahead of what", Boards::pair, y -> y.cellOf(36, 4), UNKNOWN);
            told("cell below ahead of what", Boards::pair, y -> y.cellOf(-1, -1), UNKNOWN);
        });
    }

    private static void cellNumbers() {
        says(14, "0 for its height, 1 for whether it has a rock (1, otherwise 0)", () -> {
            for (int height = 0; height <= 4; height++) {
                TideBoats x = new TideBoats();
                x.sand(1, height, true);
                x.sand(34, 4 - height, false);
                due("height", x.cellOf(1, 0), height);
                due("other height", x.cellOf(34, 0), 4 - height);
                due("rock", x.cellOf(1, 1), 1);
                due("no rock", x.cellOf(34, 1), 0);
            }
        });
        says(14, "The water over a cell is the tide less its height, or 0 if that is below 0.", () -> {
            TideBoats x = new TideBoats();
            for (int height = 0; height <= 4; height++) {
                x.sand(1 + height, height, false);
            }
            x.boat(0, 1, 1);
            int[][] waters = {{1, 0, 0, 0, 0}, {2, 1, 0, 0, 0}, {3, 2, 1, 0, 0}, {4, 3, 2, 1, 0}, {3, 2, 1, 0, 0},
                {2, 1, 0, 0, 0}, {1, 0, 0, 0, 0}, {2, 1, 0, 0, 0}};
            for (int turn = 0; turn < waters.length; turn++) {
                for (int height = 0; height <= 4; height++) {
                    due("water on " + height + " in " + turn, x.cellOf(1 + height, 2), waters[turn][height]);
                }
                due("water in a harbour in " + turn, x.cellOf(35, 2), waters[turn][0]);
                x.pause();
            }
        });
        says(14, "2 for the water over it now", () -> {
            TideBoats x = settings(0, 1, 1);
            x.boat(0, 1, 7);
            due("no water at all", x.cellOf(0, 2), 0);
            due("none on sand", x.cellOf(7, 2), 0);
            TideBoats y = settings(3, 4, 1);
            y.boat(0, 1, 7);
            pauses(y, 4);
            due("the deepest", y.cellOf(35, 2), 7);
            due("on sand", y.cellOf(7, 2), 6);
        });
    }

    private static void cellBoats() {
        says(14, "3 for the boat there (NONE without one)", () -> {
            TideBoats x = deep();
            for (int boat = 0; boat < 10; boat++) {
                x.boat(boat % 2, 1, 30 - boat);
            }
            for (int cell = 0; cell < 36; cell++) {
                due("boat in " + cell, x.cellOf(cell, 3), cell > 20 && cell <= 30 ? 30 - cell : NONE);
            }
            TideBoats y = fates();
            due("the one that went home", y.cellOf(34, 3), NONE);
            due("in the harbour", y.cellOf(35, 3), NONE);
            due("the one that rammed", y.cellOf(14, 3), 2);
            due("where it was", y.cellOf(13, 3), NONE);
            TideBoats z = reef();
            z.boat(0, 1, 14);
            z.boat(1, 1, 31);
            pauses(z, 2);
            due("the one that is wrecked on its rock", z.cellOf(14, 3), NONE);
        });
    }

    private static void boatArguments() {
        says(15, "`boat`: a boat", () -> {
            told("boat 0 of none", TideBoats::new, y -> y.boatOf(0, 0), UNKNOWN);
            told("boat 2 of two", Boards::pair, y -> y.boatOf(2, 0), UNKNOWN);
            due("boat 1 of two", pair().boatOf(1, 0), 1);
            for (int boat : OUTSIDE) {
                told("boat " + boat, Boards::pair, y -> y.boatOf(boat, 0), UNKNOWN);
            }
            TideBoats x = deep();
            for (int boat = 0; boat < 10; boat++) {
                x.boat(1, 1, 10 + boat);
            }
            due("boat 9 of ten", x.boatOf(9, 0), 1);
            due("boat 10 of ten", x.boatOf(10, 0), UNKNOWN);
            x.undo();
            due("boat 9 of nine", x.boatOf(9, 0), UNKNOWN);
        });
        says(15, "Returns the number; UNKNOWN; BAD_VALUE.", () -> {
            told("what 7", Boards::pair, y -> y.boatOf(0, 7), BAD_VALUE);
            told("what 7 of one that is home", Boards::fates, y -> y.boatOf(0, 7), BAD_VALUE);
            for (int what : OUTSIDE) {
                told("what " + what, Boards::pair, y -> y.boatOf(1, what), BAD_VALUE);
            }
            told("boat ahead of what", Boards::pair, y -> y.boatOf(2, 7), UNKNOWN);
            told("boat below ahead of what", Boards::pair, y -> y.boatOf(-1, -1), UNKNOWN);
        });
    }

    private static void boatNumbers() {
        says(15, "0 for its player, 1 for its draft, 2 for how it is, 3 for its cell", () -> {
            TideBoats x = pair();
            int[][] numbers = {{0, 1, ON_BOARD, 14, 1, 0}, {1, 2, ON_BOARD, 21, 1, 0}};
            for (int what = 0; what < 6; what++) {
                due("what " + what + " of 0", x.boatOf(0, what), numbers[0][what]);
                due("what " + what + " of 1", x.boatOf(1, what), numbers[1][what]);
            }
        });
        says(15, "4 for whether it floats (1, otherwise 0", () -> {
            for (int draft = 1; draft <= 3; draft++) {
                TideBoats x = deep();
                x.boat(0, draft, 14);
                x.sand(14, 3 - draft, false);
                due("so much water", x.boatOf(0, 4), 1);
                x.sand(14, 3 - draft + 1, false);
                due("1 less", x.boatOf(0, 4), 0);
            }
            TideBoats x = new TideBoats();
            x.boat(0, 2, 14);
            int[] floats = {0, 0, 1, 1, 1, 0, 0, 0, 1};
            for (int turn = 0; turn < floats.length; turn++) {
                due("in the turn " + turn, x.boatOf(0, 4), floats[turn]);
                x.pause();
            }
        });
        says(15, "5 for steps that it went so far", () -> {
            TideBoats x = pair();
            x.move(0, RIGHT, 3);
            x.move(1, LEFT, 1);
            x.move(0, LEFT, 2);
            due("steps of 0", x.boatOf(0, 5), 5);
            due("steps of 1", x.boatOf(1, 5), 1);
            x.move(0, LEFT, 1);
            due("steps behind no move", x.boatOf(0, 5), 5);
            x.undo();
            due("steps behind an undo", x.boatOf(0, 5), 3);
        });
    }

    private static void boatsAground() {
        says(15, "floats in a turn if the water over its cell is its draft or more, otherwise it is aground", () -> {
            for (int height = 0; height <= 4; height++) {
                for (int draft = 1; draft <= 3; draft++) {
                    TideBoats x = flat(0);
                    x.sand(14, height, false);
                    x.boat(0, draft, 14);
                    for (int turn = 0; turn <= 6; turn++) {
                        boolean floats = x.tide(turn) - height >= draft;
                        due("floats in " + turn, x.boatOf(0, 4), floats ? 1 : 0);
                        due("aground in " + turn, x.count(9), floats ? 0 : 1);
                        due("why in " + turn, x.why(0, RIGHT, 1), turn % 2 == 1 ? 3 : floats ? 0 : 4);
                        x.pause();
                    }
                }
            }
        });
    }

    private static void boatsNotOnBoard() {
        says(15, "3 for its cell (NONE if it is not on the board)", () -> {
            due("home", fates().boatOf(0, 3), NONE);
            due("rammed", fates().boatOf(1, 3), NONE);
            due("on the board", fates().boatOf(2, 3), 14);
            due("how the one at home is", fates().boatOf(0, 2), HOME);
            due("how the rammed one is", fates().boatOf(1, 2), WRECKED);
        });
        says(15, "0 if it is not on the board", () -> {
            TideBoats x = fates();
            x.pause();
            x.pause();
            due("the harbour's water", x.cellOf(35, 2), 2);
            due("home", x.boatOf(0, 4), 0);
            due("rammed", rammedInDeepWater().boatOf(1, 4), 0);
        });
        says(15, "5 for steps that it went so far, 6 for how many moves it has now", () -> {
            due("steps of the one at home", fates().boatOf(0, 5), 1);
            due("steps of the rammed one", fates().boatOf(1, 5), 0);
            due("moves of the one at home", fates().boatOf(0, 6), 0);
            due("moves of the rammed one", fates().boatOf(1, 6), 0);
        });
    }

    /** The boat 1 was rammed in low water; now, in the turn 2, there is water for it. */
    private static TideBoats rammedInDeepWater() {
        TideBoats x = flat(0);
        x.boat(0, 1, 13);
        x.boat(1, 3, 14);
        x.move(0, RIGHT, 1);
        x.pause();
        due("water enough for the rammed one", x.cellOf(14, 2), 3);
        return x;
    }

    private static void boatMoves() {
        says(15, "6 for how many moves it has now (as why() is 0), whoever's turn it is", () -> {
            TideBoats x = pair();
            due("moves of 0", x.boatOf(0, 6), 10);
            due("moves of 1 in the other's turn", x.boatOf(1, 6), 10);
            x.pause();
            due("moves of 0 in the other's turn", x.boatOf(0, 6), 10);
            due("moves of 1", x.boatOf(1, 6), 10);
            TideBoats y = flat(0);
            y.boat(0, 2, 14);
            due("aground", y.boatOf(0, 6), 0);
            y.boat(0, 1, 13);
            due("beside a boat of its own", y.boatOf(1, 6), 6);
            y.undo();
            y.boat(1, 1, 13);
            due("beside one that it can ram", y.boatOf(1, 6), 7);
        });
        says(15, "(as why() is 0)", () -> {
            TideBoats x = pair();
            x.set(3, 10);
            pauses(x, 10);
            due("in the last turn", x.boatOf(0, 6), 10);
            x.pause();
            due("over", x.boatOf(0, 6), 0);
            due("over, the player's whose turn it is", x.boatOf(1, 6), 0);
            TideBoats y = deep();
            y.boat(0, 1, 1);
            due("not into the other harbour", y.boatOf(0, 6), 6);
            y.boat(1, 1, 6);
            due("into its own", y.boatOf(1, 6), 7);
        });
    }

    private static void tideArguments() {
        says(16, "`turn`: 0 to 1000", () -> {
            told("turn 0", TideBoats::new, y -> y.tide(0), 1);
            told("turn 1000", TideBoats::new, y -> y.tide(1000), 3);
            told("turn 1001", TideBoats::new, y -> y.tide(1001), UNKNOWN);
            told("turn 999", TideBoats::new, y -> y.tide(999), 4);
            for (int turn : OUTSIDE) {
                told("turn " + turn, TideBoats::new, y -> y.tide(turn), UNKNOWN);
            }
        });
        says(16, "Returns the tide; UNKNOWN.", () -> {
            for (int setting = 0; setting < 48; setting++) {
                TideBoats x = settings(setting % 4, 1 + setting / 4 % 4, 1 + setting / 16);
                due("the turn ahead of 0", x.tide(-1), UNKNOWN);
                due("the turn 0", x.tide(0), setting % 4);
                due("the turn 1000 is one", x.tide(1000) >= setting % 4 ? 1 : 0, 1);
                due("the turn 1001", x.tide(1001), UNKNOWN);
            }
        });
        says(16, "Tells the tide of a turn.", () -> {
            TideBoats x = pair();
            x.set(3, 10);
            pauses(x, 11);
            due("a turn that was", x.tide(3), 6);
            due("a turn that never comes", x.tide(99), 6);
            due("the tide now", x.count(2), x.tide(11));
        });
    }

    private static void tideNumbers() {
        says(16, "The tide of a turn is found by q, the turn divided by the setting 2, rounded down, and r", () -> {
            for (int setting = 0; setting < 48; setting++) {
                int low = setting % 4;
                int rise = 1 + setting / 4 % 4;
                int span = 1 + setting / 16;
                TideBoats x = settings(low, rise, span);
                int steps = 0;
                int way = 1;
                for (int turn = 0; turn <= 3 * 2 * rise * span; turn++) {
                    due("tide of " + turn + " from " + low + " by " + rise, x.tide(turn), low + steps);
                    if (turn % span == span - 1) {
                        steps += way;
                        way = steps == rise ? -1 : steps == 0 ? 1 : way;
                    }
                }
            }
        });
        says(16, "q modulo (2 * the setting 1)", () -> {
            for (int rise = 1; rise <= 4; rise++) {
                TideBoats x = settings(1, rise, 2);
                due("the last turn of a tide", x.tide(4 * rise - 1), 2);
                due("the first of the next tide", x.tide(4 * rise), 1);
                due("the second of the next tide", x.tide(4 * rise + 1), 1);
                due("its first rise", x.tide(4 * rise + 2), 2);
            }
        });
        says(16, "otherwise the setting 0 and (2 * the setting 1 - r)", () -> {
            for (int rise = 1; rise <= 4; rise++) {
                TideBoats x = settings(2, rise, 1);
                due("at most the setting 1", x.tide(rise), 2 + rise);
                due("1 more", x.tide(rise + 1), 2 + rise - 1);
                due("2 * the setting 1", x.tide(2 * rise), 2);
            }
        });
        says(16, "it is the setting 0 and r, if r is at most the setting 1", () -> {
            TideBoats x = settings(0, 1, 1);
            due("the least rise, up", x.tide(1), 1);
            due("the least rise, down", x.tide(2), 0);
            due("the last turn, even", x.tide(1000), 0);
            TideBoats y = settings(3, 4, 3);
            due("the last turn of the highest", y.tide(14), 7);
            due("the first behind it", y.tide(15), 6);
            due("the last turn of a tide", y.tide(23), 4);
            due("the first of the next tide", y.tide(24), 3);
            due("the turn 1000", y.tide(1000), 6);
        });
    }

    private static void countArguments() {
        says(18, "Returns the number; BAD_VALUE.", () -> {
            due("0", pair().count(0), 0);
            due("18", pair().count(18), 60);
            told("19", Boards::pair, y -> y.count(19), BAD_VALUE);
            for (int what : OUTSIDE) {
                told("" + what, Boards::pair, y -> y.count(what), BAD_VALUE);
            }
        });
    }

    private static void countsOfBoats() {
        says(18, "3 and 4 for the scores of the players 0 and 1", () -> {
            TideBoats x = fates();
            due("score of the player 0", x.count(3), 1);
            due("score of the player 1", x.count(4), 0);
            TideBoats y = deep();
            y.boat(1, 3, 1);
            y.boat(1, 2, 6);
            y.pause();
            y.move(0, LEFT, 1);
            y.pause();
            y.move(1, UP, 1);
            due("score of the player 1, two boats", y.count(4), 5);
            due("score of the player 0, none", y.count(3), 0);
        });
        says(18, "5 for boats, 6 to 8 for those on the board, home, and wrecked", () -> {
            due("none", new TideBoats().count(5), 0);
            int[] counts = {4, 2, 1, 1};
            for (int what = 0; what < counts.length; what++) {
                due("count " + (5 + what), fates().count(5 + what), counts[what]);
            }
        });
        says(18, "9 for those that are aground, 10 for boats rammed so far", () -> {
            // The tide 1, 2, 1, 2: both boats that are left have sand 0 below them, and a draft of 1.
            due("none aground", fates().count(9), 0);
            due("rammed", fates().count(10), 1);
            TideBoats x = new TideBoats();
            x.boat(0, 1, 7);
            x.boat(1, 2, 8);
            x.boat(0, 3, 9);
            int[] aground = {3, 2, 1, 0, 1, 2, 3};
            for (int turn = 0; turn < aground.length; turn++) {
                due("aground in " + turn, x.count(9), aground[turn]);
                x.pause();
            }
            TideBoats y = reef();
            y.boat(0, 1, 14);
            y.boat(1, 1, 31);
            pauses(y, 2);
            due("wrecked by the water are not rammed", y.count(10), 0);
            due("wrecked are not aground", y.count(9), 1);
        });
    }

    private static void countsOfTheGame() {
        says(18, "0 for the turn, 1 for whose turn it is, 2 for the tide", () -> {
            TideBoats x = pair();
            int[] tides = {3, 4, 5, 6, 5, 4, 3, 4};
            for (int turn = 0; turn < tides.length; turn++) {
                due("turn", x.count(0), turn);
                due("whose turn", x.count(1), turn % 2);
                due("tide", x.count(2), tides[turn]);
                x.pause();
            }
        });
        says(18, "11 for whether the game is over (1, otherwise 0)", () -> {
            due("before any boat came", new TideBoats().count(11), 1);
            due("with boats", pair().count(11), 0);
            for (int last : new int[] {10, 99}) {
                TideBoats x = pair();
                x.set(3, last);
                pauses(x, last);
                due("in the last turn", x.count(11), 0);
                x.pause();
                due("behind it", x.count(11), 1);
            }
            TideBoats y = reef();
            y.boat(0, 1, 14);
            y.pause();
            due("one on the board", y.count(11), 0);
            y.pause();
            due("none on the board", y.count(11), 1);
        });
        says(18, "12 for moves that the player has whose turn it is", () -> {
            due("no boats", new TideBoats().count(12), 0);
            TideBoats x = pair();
            x.boat(0, 1, 34);
            due("of the player 0", x.count(12), 10 + 7);
            x.pause();
            due("of the player 1", x.count(12), 10);
            TideBoats y = deep();
            y.boat(0, 1, 14);
            y.set(3, 10);
            pauses(y, 9);
            due("of a player without boats", y.count(12), 0);
            y.pause();
            due("in the last turn", y.count(12), 10);
            y.pause();
            due("over", y.count(12), 0);
        });
    }

    private static void countsOfTheRest() {
        says(18, "13 for the states in the history, 14 for the length of the text", () -> {
            TideBoats x = new TideBoats();
            for (int acts = 1; acts <= 6; acts++) {
                x.sand(acts, 0, false);
                due("states", x.count(13), Math.min(acts, 4));
                x.type('w');
                due("length", x.count(14), acts);
            }
            x.undo();
            due("states behind an undo", x.count(13), 3);
            x.clearText();
            due("length of an empty text", x.count(14), 0);
        });
        says(18, "15 to 18 for the settings", () -> {
            TideBoats x = settings(0, 4, 2);
            x.set(3, 99);
            int[] settings = {0, 4, 2, 99};
            for (int which = 0; which < 4; which++) {
                due("setting " + which, x.count(15 + which), settings[which]);
            }
        });
    }

    private static void afloatArguments() {
        says(19, "`cell`: 0 to 35", () -> {
            TideBoats x = new TideBoats();
            for (int cell = 0; cell < 36; cell++) {
                dueFloat("cell " + cell, x.afloat(cell, 1), cell % 35 == 0 ? 1.0f : 5.0f / 6.0f);
            }
            dueFloat("cell 36", x.afloat(36, 1), -1.0f);
            for (int wrong : OUTSIDE) {
                dueFloat("cell " + wrong, x.afloat(wrong, 1), -1.0f);
            }
        });
        says(19, "`draft`: 1 to 3", () -> {
            TideBoats x = new TideBoats();
            dueFloat("draft 1", x.afloat(0, 1), 1.0f);
            dueFloat("draft 3", x.afloat(0, 3), 0.5f);
            dueFloat("draft 0", x.afloat(0, 0), -1.0f);
            dueFloat("draft 4", x.afloat(0, 4), -1.0f);
            for (int wrong : OUTSIDE) {
                dueFloat("draft " + wrong, x.afloat(0, wrong), -1.0f);
            }
        });
        says(19, "-1.0f if there is no such cell or draft", () -> {
            dueFloat("neither", new TideBoats().afloat(36, 4), -1.0f);
            dueFloat("none, not 0 of the turns", new TideBoats().afloat(-1, 0), -1.0f);
            told("a share", Boards::pair, y -> y.afloat(14, 1) == 1.0f ? 0 : 1, 0);
        });
    }

    private static void afloatShares() {
        says(19, "in which the water is the draft or more", () -> {
            TideBoats x = new TideBoats();
            float[] shares = {1.0f, 5.0f / 6.0f, 3.0f / 6.0f};
            for (int draft = 1; draft <= 3; draft++) {
                dueFloat("draft " + draft + " in a harbour", x.afloat(0, draft), shares[draft - 1]);
            }
            x.sand(7, 3, true);
            dueFloat("only at the highest", x.afloat(7, 1), 1.0f / 6.0f);
            dueFloat("never", x.afloat(7, 2), 0.0f);
            x.sand(7, 4, false);
            dueFloat("no water", x.afloat(7, 1), 0.0f);
        });
        says(19, "Returns the turns from 0 on, of a whole rise and fall", () -> {
            for (int setting = 0; setting < 48; setting++) {
                TideBoats x = settings(setting % 4, 1 + setting / 4 % 4, 1 + setting / 16);
                int all = 2 * (1 + setting / 4 % 4) * (1 + setting / 16);
                for (int height = 0; height <= 4; height++) {
                    x.sand(7, height, false);
                    for (int draft = 1; draft <= 3; draft++) {
                        dueFloat("draft " + draft + " on " + height, x.afloat(7, draft), share(x, height, draft, all));
                    }
                }
            }
        });
        says(19, "Tells for what share of the turns of a tide a draft floats over a cell.", () -> {
            for (int setting = 0; setting < 48; setting++) {
                TideBoats x = settings(setting % 4, 1 + setting / 4 % 4, 1 + setting / 16);
                int all = 2 * x.count(16) * x.count(17);
                x.boat(0, 2, 7);
                int floats = 0;
                for (int turn = 0; turn < all; turn++) {
                    floats += x.boatOf(0, 4);
                    x.pause();
                }
                dueFloat("as the boat there floats", x.afloat(7, 2), (float) floats / (float) all);
            }
        });
        says(19, ", as a float, divided by all of them, as a float", () -> {
            TideBoats x = settings(0, 4, 3);
            x.boat(0, 1, 7);
            x.sand(7, 0, false);
            float share = 21.0f / 24.0f;
            dueFloat("in the turn 0", x.afloat(7, 1), share);
            pauses(x, 5);
            dueFloat("in a later turn", x.afloat(7, 1), share);
            dueFloat("a third", settings(1, 3, 2).afloat(7, 2), (float) 6 / (float) 12);
            dueFloat("a share that is no half", settings(1, 3, 1).afloat(34, 3), (float) 1 / (float) 6);
        });
    }

    private static float share(TideBoats x, int height, int draft, int all) {
        int wet = 0;
        for (int turn = 0; turn < all; turn++) {
            if (x.tide(turn) - height >= draft) {
                wet++;
            }
        }
        return (float) wet / (float) all;
    }
}
