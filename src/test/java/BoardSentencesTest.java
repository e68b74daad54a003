/** The sentences on the board, the boats that come and the settings: promises 1 to 4. */
public final class BoardSentencesTest extends Sentences {
    private static final int[] FIRST = {1, 3, 1, 60};
    private static final int[] LEAST = {0, 1, 1, 10};
    private static final int[] MOST = {3, 4, 3, 99};

    public static void main(String[] args) {
        newObject();
        cells();
        sandArguments();
        sandAnswers();
        sandOrder();
        boatArguments();
        boatNumbers();
        boatNotPossible();
        boatOrder();
        setRanges();
        setAnswers();
        setOrder();
        end();
    }

    private static void newObject() {
        says(1, "Creates a flat board without boats, in the turn 0.", () -> {
            TideBoats x = new TideBoats();
            due("turn", x.count(0), 0);
            due("boats", x.count(5), 0);
            due("boat 0", x.boatOf(0, 0), UNKNOWN);
            for (int cell = 0; cell < 36; cell++) {
                due("boat in " + cell, x.cellOf(cell, 3), NONE);
            }
        });
        says(1, "Each cell has a height of sand, 0 to 4 (1 at first), and a rock or none (none at first).", () -> {
            TideBoats x = new TideBoats();
            for (int cell = 1; cell < 35; cell++) {
                due("height of " + cell, x.cellOf(cell, 0), 1);
                due("rock of " + cell, x.cellOf(cell, 1), 0);
            }
        });
        says(1, "both always have the height 0, and no rock", () -> {
            TideBoats x = new TideBoats();
            for (int cell : new int[] {0, 35}) {
                due("height of " + cell, x.cellOf(cell, 0), 0);
                due("rock of " + cell, x.cellOf(cell, 1), 0);
            }
        });
        says(1, "The settings are (in parentheses: range; first value)", () -> {
            TideBoats x = new TideBoats();
            for (int which = 0; which < 4; which++) {
                due("setting " + which, x.count(15 + which), FIRST[which]);
            }
        });
        says(1, "There is a text of at most 60 characters, empty at first.", () -> {
            TideBoats x = new TideBoats();
            due("length", x.count(14), 0);
            due("fault", x.fault(), 0);
            due("length that it had", x.clearText(), 0);
        });
        says(1, "A history of at most 4 states is kept", () ->
            due("states", new TideBoats().count(13), 0));
        says(1, "There is one snapshot, empty at first.", () ->
            refused("restore", TideBoats::new, TideBoats::restore, NONE));
    }

    private static void cells() {
        says(2, "The board has 36 cells", () -> {
            int cells = 0;
            for (int cell = -50; cell <= 50; cell++) {
                TideBoats x = new TideBoats();
                boolean isCell = x.cellOf(cell, 0) != UNKNOWN;
                cells += isCell ? 1 : 0;
                due("sand in " + cell, x.sand(cell, 2, true) != UNKNOWN ? 1 : 0, isCell ? 1 : 0);
                due("a boat in " + cell, x.boat(0, 1, cell) != UNKNOWN ? 1 : 0, isCell ? 1 : 0);
                due("a share for " + cell, x.afloat(cell, 1) != -1.0f ? 1 : 0, isCell ? 1 : 0);
            }
            due("cells", cells, 36);
        });
        says(2, "Gives a cell another height and a rock, or none.", () -> {
            TideBoats x = new TideBoats();
            for (int height : new int[] {4, 0, 2}) {
                for (boolean rock : new boolean[] {true, false}) {
                    x.sand(7, height, rock);
                    due("height", x.cellOf(7, 0), height);
                    due("rock", x.cellOf(7, 1), rock ? 1 : 0);
                    due("sand in other cells", sandIn(x) - height, 33);
                }
            }
        });
    }

    /** All heights together. */
    private static int sandIn(TideBoats x) {
        int sand = 0;
        for (int cell = 0; cell < 36; cell++) {
            sand += x.cellOf(cell, 0);
        }
        return sand;
    }

    private static void sandArguments() {
        says(2, "`cell`: 0 to 35", () -> {
            TideBoats x = new TideBoats();
            for (int cell = 1; cell < 35; cell++) {
                due("cell " + cell, x.sand(cell, 2, false), 1);
                due("height of " + cell, x.cellOf(cell, 0), 2);
            }
            refused("cell 0", TideBoats::new, y -> y.sand(0, 2, false), NOT_POSSIBLE);
            refused("cell 35", TideBoats::new, y -> y.sand(35, 2, false), NOT_POSSIBLE);
            refused("cell 36", TideBoats::new, y -> y.sand(36, 2, false), UNKNOWN);
            for (int cell : OUTSIDE) {
                refused("cell " + cell, TideBoats::new, y -> y.sand(cell, 2, false), UNKNOWN);
            }
        });
        says(2, "`height`: 0 to 4", () -> {
            for (int height : new int[] {0, 2, 3, 4}) {
                TideBoats x = new TideBoats();
                due("height " + height, x.sand(7, height, false), 1);
                due("told height " + height, x.cellOf(7, 0), height);
            }
            refused("height 5", TideBoats::new, y -> y.sand(7, 5, true), BAD_VALUE);
            for (int height : OUTSIDE) {
                refused("height " + height, TideBoats::new, y -> y.sand(7, height, true), BAD_VALUE);
            }
        });
        says(2, "`rock`: whether there is a rock", () -> {
            TideBoats x = new TideBoats();
            due("with a rock", x.sand(7, 2, true), 1);
            due("a rock", x.cellOf(7, 1), 1);
            due("no rock beside it", x.cellOf(8, 1), 0);
            due("without", x.sand(7, 3, false), 2);
            due("no rock", x.cellOf(7, 1), 0);
        });
        says(2, "This is an act.", () -> {
            act("sand", BoardSentencesTest::rocky, y -> y.sand(8, 4, true), 1);
            act("sand without a rock", BoardSentencesTest::rocky, y -> y.sand(7, 3, false), 3);
            act("sand below a boat", BoardSentencesTest::rocky, y -> y.sand(9, 0, true), 1);
        });
    }

    /** A rock on the sand of the cell 7, of height 3, and boats in 9 and 10. */
    private static TideBoats rocky() {
        TideBoats x = new TideBoats();
        x.sand(7, 3, true);
        x.boat(0, 1, 9);
        x.boat(1, 2, 10);
        return x;
    }

    private static void sandAnswers() {
        says(2, "Returns the previous height", () -> {
            TideBoats x = new TideBoats();
            int[] heights = {4, 0, 3, 2, 1, 0};
            int previous = 1;
            for (int height : heights) {
                due("height " + height, x.sand(34, height, false), previous);
                previous = height;
            }
        });
        says(2, "NOT_POSSIBLE if it is a harbour", () -> {
            for (int cell : new int[] {0, 35}) {
                for (int height = 0; height <= 4; height++) {
                    int high = height;
                    refused("sand in " + cell, TideBoats::new, y -> y.sand(cell, high, false), NOT_POSSIBLE);
                    refused("rock in " + cell, TideBoats::new, y -> y.sand(cell, high, true), NOT_POSSIBLE);
                }
            }
        });
        says(2, "or the turn is not 0", () -> {
            // The turn 6 has the tide of the turn 0 again.
            for (int turn : new int[] {1, 2, 6}) {
                refused("turn " + turn, () -> later(BoardSentencesTest::rocky, turn), y -> y.sand(8, 2, true),
                    NOT_POSSIBLE);
            }
            TideBoats x = later(BoardSentencesTest::rocky, 1);
            x.undo();
            due("in the turn 0 again", x.sand(8, 2, true), 1);
        });
        says(2, "NONE if it is so already", () -> {
            refused("flat sand", TideBoats::new, y -> y.sand(7, 1, false), NONE);
            refused("a rock on 3", BoardSentencesTest::rocky, y -> y.sand(7, 3, true), NONE);
            due("the rock alone", rocky().sand(7, 3, false), 3);
            due("the height alone", rocky().sand(7, 1, true), 3);
            due("a rock alone", rocky().sand(8, 1, true), 1);
        });
    }

    private static void sandOrder() {
        says(2, "UNKNOWN; BAD_VALUE; NOT_POSSIBLE if it is a harbour, or the turn is not 0; NONE if it is so already", () -> {
            refused("cell ahead of height", TideBoats::new, y -> y.sand(36, 5, true), UNKNOWN);
            refused("cell ahead of turn", () -> later(BoardSentencesTest::rocky, 1), y -> y.sand(-1, 1, true), UNKNOWN);
            refused("height ahead of harbour", TideBoats::new, y -> y.sand(0, 5, false), BAD_VALUE);
            refused("height ahead of the other harbour", TideBoats::new, y -> y.sand(35, -1, false), BAD_VALUE);
            refused("height ahead of turn", () -> later(BoardSentencesTest::rocky, 1), y -> y.sand(7, 5, true), BAD_VALUE);
            refused("harbour ahead of so already", TideBoats::new, y -> y.sand(35, 0, false), NOT_POSSIBLE);
            refused("other harbour ahead of so already", TideBoats::new, y -> y.sand(0, 0, false), NOT_POSSIBLE);
            refused("turn ahead of so already", () -> later(BoardSentencesTest::rocky, 1), y -> y.sand(7, 3, true),
                NOT_POSSIBLE);
        });
    }

    private static void boatArguments() {
        says(3, "`player`: 0 or 1", () -> {
            TideBoats x = new TideBoats();
            due("player 0", x.boat(0, 1, 7), 0);
            due("player 1", x.boat(1, 1, 8), 1);
            due("of the player 0", x.boatOf(0, 0), 0);
            due("of the player 1", x.boatOf(1, 0), 1);
            refused("player 2", TideBoats::new, y -> y.boat(2, 1, 7), UNKNOWN);
            for (int player : OUTSIDE) {
                refused("player " + player, TideBoats::new, y -> y.boat(player, 1, 7), UNKNOWN);
            }
        });
        says(3, "`draft`: 1 to 3", () -> {
            TideBoats x = new TideBoats();
            for (int draft = 1; draft <= 3; draft++) {
                due("draft " + draft, x.boat(0, draft, 10 + draft), draft - 1);
                due("told draft " + draft, x.boatOf(draft - 1, 1), draft);
            }
            refused("draft 0", TideBoats::new, y -> y.boat(0, 0, 7), BAD_VALUE);
            refused("draft 4", TideBoats::new, y -> y.boat(0, 4, 7), BAD_VALUE);
            for (int draft : OUTSIDE) {
                refused("draft " + draft, TideBoats::new, y -> y.boat(0, draft, 7), BAD_VALUE);
            }
        });
        says(3, "`cell`: 0 to 35", () -> {
            for (int cell = 1; cell < 35; cell++) {
                TideBoats x = new TideBoats();
                due("cell " + cell, x.boat(1, 2, cell), 0);
                due("told cell " + cell, x.boatOf(0, 3), cell);
                due("boat in " + cell, x.cellOf(cell, 3), 0);
            }
            refused("cell 36", TideBoats::new, y -> y.boat(0, 1, 36), UNKNOWN);
            for (int cell : OUTSIDE) {
                refused("cell " + cell, TideBoats::new, y -> y.boat(0, 1, cell), UNKNOWN);
            }
        });
        says(3, "A boat comes. This is an act.", () -> {
            act("boat", BoardSentencesTest::rocky, y -> y.boat(0, 3, 20), 2);
            act("boat on a rock", BoardSentencesTest::rocky, y -> y.boat(1, 1, 7), 2);
            act("the tenth", () -> fleet(9), y -> y.boat(1, 1, 30), 9);
        });
        says(3, "A boat is on the board (0), home (1), or wrecked (2).", () -> {
            TideBoats x = new TideBoats();
            x.boat(0, 3, 7);
            due("how it is at first", x.boatOf(0, 2), ON_BOARD);
            due("steps at first", x.boatOf(0, 5), 0);
        });
    }

    /** So many boats in the cells from 10 on. */
    private static TideBoats fleet(int boats) {
        TideBoats x = new TideBoats();
        for (int boat = 0; boat < boats; boat++) {
            x.boat(boat % 2, 1 + boat % 3, 10 + boat);
        }
        return x;
    }

    private static void boatNumbers() {
        says(3, "There are at most 10 boats, numbered from 0 in the order in which they came", () -> {
            TideBoats x = new TideBoats();
            for (int boat = 0; boat < 10; boat++) {
                due("number", x.boat(boat % 2, 1 + boat % 3, 34 - 2 * boat), boat);
                due("boats", x.count(5), boat + 1);
            }
            for (int boat = 0; boat < 10; boat++) {
                due("player", x.boatOf(boat, 0), boat % 2);
                due("draft", x.boatOf(boat, 1), 1 + boat % 3);
                due("cell", x.boatOf(boat, 3), 34 - 2 * boat);
            }
        });
        says(3, "each of a player, with a draft, 1 to 3", () -> {
            TideBoats x = new TideBoats();
            for (int boat = 0; boat < 6; boat++) {
                x.boat(boat / 3, 3 - boat % 3, 7 + boat);
            }
            for (int boat = 0; boat < 6; boat++) {
                due("player of " + boat, x.boatOf(boat, 0), boat / 3);
                due("draft of " + boat, x.boatOf(boat, 1), 3 - boat % 3);
            }
        });
        says(3, "FULL if there are 10", () -> {
            refused("an eleventh", () -> fleet(10), y -> y.boat(0, 1, 30), FULL);
            TideBoats x = fleet(10);
            x.undo();
            due("a tenth behind an undo", x.boat(0, 1, 30), 9);
            due("an eleventh then", x.boat(0, 1, 31), FULL);
        });
        says(3, "Returns its number", () -> {
            TideBoats x = fleet(1);
            x.undo();
            due("the first again", x.boat(1, 3, 20), 0);
            due("the second", x.boat(1, 3, 21), 1);
        });
    }

    private static void boatNotPossible() {
        says(3, "NOT_POSSIBLE if the turn is not 0", () -> {
            for (int turn : new int[] {1, 2, 6}) {
                refused("turn " + turn, () -> later(() -> fleet(2), turn), y -> y.boat(0, 1, 30), NOT_POSSIBLE);
            }
            TideBoats x = later(() -> fleet(2), 1);
            x.undo();
            due("in the turn 0 again", x.boat(0, 1, 30), 2);
        });
        says(3, "it is a harbour", () -> {
            for (int player = 0; player < 2; player++) {
                int owner = player;
                refused("harbour 0", TideBoats::new, y -> y.boat(owner, 1, 0), NOT_POSSIBLE);
                refused("harbour 35", TideBoats::new, y -> y.boat(owner, 1, 35), NOT_POSSIBLE);
            }
        });
        says(3, "or a boat is there", () -> {
            refused("a boat of the other player", () -> fleet(2), y -> y.boat(0, 1, 11), NOT_POSSIBLE);
            refused("a boat of the same player", () -> fleet(2), y -> y.boat(1, 1, 11), NOT_POSSIBLE);
            due("beside it", fleet(2).boat(1, 1, 12), 2);
        });
        says(3, "No two boats are on the board in one cell.", () -> {
            TideBoats x = fleet(10);
            for (int cell = 10; cell < 20; cell++) {
                due("boat in " + cell, x.boat(0, 1, cell), NOT_POSSIBLE);
                due("boat told in " + cell, x.cellOf(cell, 3), cell - 10);
            }
        });
    }

    private static void boatOrder() {
        says(3, "UNKNOWN (player or cell); BAD_VALUE; NOT_POSSIBLE if the turn is not 0", () -> {
            refused("player ahead of draft", TideBoats::new, y -> y.boat(2, 4, 7), UNKNOWN);
            refused("cell ahead of draft", TideBoats::new, y -> y.boat(0, 4, 36), UNKNOWN);
            refused("player ahead of turn", () -> later(() -> fleet(2), 1), y -> y.boat(-1, 1, 7), UNKNOWN);
            refused("cell ahead of turn", () -> later(() -> fleet(2), 1), y -> y.boat(0, 1, -1), UNKNOWN);
            refused("player ahead of harbour", TideBoats::new, y -> y.boat(2, 1, 35), UNKNOWN);
            refused("draft ahead of turn", () -> later(() -> fleet(2), 1), y -> y.boat(0, 0, 7), BAD_VALUE);
            refused("draft ahead of harbour", TideBoats::new, y -> y.boat(0, 4, 35), BAD_VALUE);
            refused("draft ahead of the boat there", () -> fleet(2), y -> y.boat(0, 4, 10), BAD_VALUE);
        });
        says(3, "it is a harbour, or a boat is there; FULL if there are 10", () -> {
            refused("player ahead of full", () -> fleet(10), y -> y.boat(2, 1, 30), UNKNOWN);
            refused("cell ahead of full", () -> fleet(10), y -> y.boat(1, 1, 36), UNKNOWN);
            refused("draft ahead of full", () -> fleet(10), y -> y.boat(1, 4, 30), BAD_VALUE);
            refused("turn ahead of full", () -> later(() -> fleet(10), 1), y -> y.boat(1, 1, 30), NOT_POSSIBLE);
            refused("harbour ahead of full", () -> fleet(10), y -> y.boat(1, 1, 35), NOT_POSSIBLE);
            refused("the boat there ahead of full", () -> fleet(10), y -> y.boat(1, 1, 19), NOT_POSSIBLE);
        });
    }

    private static void setRanges() {
        String[] sentences = {"0 low water (0 to 3; 1)", "1 the steps of a rise (1 to 4; 3)",
            "2 the turns of a step (1 to 3; 1)", "3 the last turn (10 to 99; 60)"};
        for (int i = 0; i < 4; i++) {
            int which = i;
            says(4, sentences[which], () -> {
                due("first value", new TideBoats().count(15 + which), FIRST[which]);
                for (int value = LEAST[which]; value <= MOST[which]; value++) {
                    TideBoats x = new TideBoats();
                    due("value " + value, x.set(which, value), value == FIRST[which] ? NONE : FIRST[which]);
                    for (int other = 0; other < 4; other++) {
                        due("setting " + other, x.count(15 + other), other == which ? value : FIRST[other]);
                    }
                }
                refused("too low", TideBoats::new, y -> y.set(which, LEAST[which] - 1), BAD_VALUE);
                refused("too high", TideBoats::new, y -> y.set(which, MOST[which] + 1), BAD_VALUE);
                for (int value : OUTSIDE) {
                    refused("value " + value, TideBoats::new, y -> y.set(which, value), BAD_VALUE);
                }
            });
        }
        says(4, "`which`: 0 to 3", () -> {
            for (int value : new int[] {0, 1, 2, 3, 10, 60}) {
                refused("which 4", TideBoats::new, y -> y.set(4, value), BAD_VALUE);
                for (int which : OUTSIDE) {
                    refused("which " + which, TideBoats::new, y -> y.set(which, value), BAD_VALUE);
                }
            }
        });
        says(4, "`value`: in its range", () -> {
            refused("low water in the range of the last turn", TideBoats::new, y -> y.set(0, 10), BAD_VALUE);
            refused("the last turn in the range of low water", TideBoats::new, y -> y.set(3, 3), BAD_VALUE);
            refused("the turns of a step in the range of a rise", TideBoats::new, y -> y.set(2, 4), BAD_VALUE);
            refused("a rise in the range of low water", TideBoats::new, y -> y.set(1, 0), BAD_VALUE);
        });
    }

    private static void setAnswers() {
        says(4, "Sets a setting. This is an act.", () -> {
            for (int i = 0; i < 4; i++) {
                int which = i;
                act("setting " + which, BoardSentencesTest::rocky, y -> y.set(which, MOST[which]), FIRST[which]);
            }
        });
        says(4, "Returns the previous one", () -> {
            for (int which = 0; which < 4; which++) {
                TideBoats x = new TideBoats();
                due("the first", x.set(which, MOST[which]), FIRST[which]);
                due("the highest", x.set(which, MOST[which] - 1), MOST[which]);
                due("the one below", x.set(which, MOST[which]), MOST[which] - 1);
            }
        });
        says(4, "NOT_POSSIBLE if the turn is not 0", () -> {
            for (int i = 0; i < 4; i++) {
                int which = i;
                for (int turn : new int[] {1, 2, 6}) {
                    refused("turn " + turn, () -> later(BoardSentencesTest::rocky, turn), y -> y.set(which, MOST[which]),
                        NOT_POSSIBLE);
                }
                TideBoats x = later(BoardSentencesTest::rocky, 1);
                x.undo();
                due("in the turn 0 again", x.set(which, MOST[which]), FIRST[which]);
            }
        });
        says(4, "NONE if it is so already", () -> {
            for (int i = 0; i < 4; i++) {
                int which = i;
                refused("the first value", BoardSentencesTest::rocky, y -> y.set(which, FIRST[which]), NONE);
                TideBoats x = new TideBoats();
                x.set(which, MOST[which]);
                due("the highest again", x.set(which, MOST[which]), NONE);
                due("acts", x.count(13), 1);
            }
        });
    }

    private static void setOrder() {
        says(4, "BAD_VALUE (which or value); NOT_POSSIBLE if the turn is not 0; NONE if it is so already", () -> {
            for (int i = 0; i < 4; i++) {
                int which = i;
                refused("value ahead of turn", () -> later(BoardSentencesTest::rocky, 1),
                    y -> y.set(which, MOST[which] + 1), BAD_VALUE);
                refused("low value ahead of turn", () -> later(BoardSentencesTest::rocky, 1),
                    y -> y.set(which, LEAST[which] - 1), BAD_VALUE);
                refused("turn ahead of so already", () -> later(BoardSentencesTest::rocky, 1),
                    y -> y.set(which, FIRST[which]), NOT_POSSIBLE);
            }
            refused("which ahead of turn", () -> later(BoardSentencesTest::rocky, 1), y -> y.set(4, 1), BAD_VALUE);
            refused("which below ahead of turn", () -> later(BoardSentencesTest::rocky, 1), y -> y.set(-1, 1), BAD_VALUE);
        });
    }
}
