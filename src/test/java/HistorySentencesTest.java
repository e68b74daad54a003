/** The sentences on the history and the snapshot: promises 11 to 13. */
public final class HistorySentencesTest extends Sentences {
    public static void main(String[] args) {
        undoAnswers();
        fourStates();
        latestState();
        whatRecords();
        whatRecordsNot();
        refusedRecordsNothing();
        wholeState();
        otherBoats();
        keepAnswers();
        keepPlaces();
        restoreAnswers();
        restoreStays();
        restoreIsAnAct();
        end();
    }

    /** So many acts: the height of the cell 7 goes 1, 2, 3, 4, 3, 2, 3, 4, 3 .. */
    private static TideBoats acts(int acts) {
        TideBoats x = new TideBoats();
        for (int act = 0; act < acts; act++) {
            x.sand(7, heightBehind(act + 1), false);
        }
        return x;
    }

    private static int heightBehind(int acts) {
        int[] heights = {1, 2, 3, 4, 3, 2, 3, 4, 3, 2};
        return heights[acts];
    }

    private static void undoAnswers() {
        says(11, "Returns the number of states that are left", () -> {
            for (int acts = 1; acts <= 4; acts++) {
                TideBoats x = acts(acts);
                for (int left = acts - 1; left >= 0; left--) {
                    due("states left of " + acts, x.undo(), left);
                    due("states told", x.count(13), left);
                }
            }
        });
        says(11, "NONE if the history is empty", () -> {
            refused("at first", TideBoats::new, TideBoats::undo, NONE);
            TideBoats x = acts(1);
            x.undo();
            due("behind the only one", x.undo(), NONE);
            due("once more", x.undo(), NONE);
            due("states", x.count(13), 0);
            due("height", x.cellOf(7, 0), 1);
            due("an act then", x.sand(7, 2, false), 1);
            due("its undo", x.undo(), 0);
        });
    }

    private static void fourStates() {
        says(11, "A history of at most 4 states is kept; when one more is recorded, the oldest one is dropped", () -> {
            for (int acts = 1; acts <= 9; acts++) {
                TideBoats x = acts(acts);
                due("states behind " + acts, x.count(13), Math.min(acts, 4));
                int undone = 0;
                while (undone < 6 && x.undo() != NONE) {
                    undone++;
                    due("height behind undo " + undone + " of " + acts, x.cellOf(7, 0), heightBehind(acts - undone));
                }
                due("undone of " + acts, undone, Math.min(acts, 4));
            }
        });
    }

    private static void latestState() {
        says(11, "Removes and restores the latest state of the history.", () -> {
            TideBoats x = pair();
            x.move(0, UP, 2);
            x.move(1, UP, 2);
            due("undo", x.undo(), 3);
            due("turn", x.count(0), 1);
            due("cell of the latest", x.boatOf(1, 3), 21);
            due("cell of the one ahead", x.boatOf(0, 3), 2);
            due("it is removed", x.undo(), 2);
            due("turn", x.count(0), 0);
            due("cell of the one ahead", x.boatOf(0, 3), 14);
        });
        says(11, "undo() removes and restores the latest one", () -> {
            TideBoats x = acts(6);
            due("first", x.undo(), 3);
            due("height", x.cellOf(7, 0), heightBehind(5));
            due("second", x.undo(), 2);
            due("height", x.cellOf(7, 0), heightBehind(4));
            x.sand(7, 0, true);
            due("states behind an act in between", x.count(13), 3);
            due("its undo", x.undo(), 2);
            due("height", x.cellOf(7, 0), heightBehind(4));
            due("rock", x.cellOf(7, 1), 0);
            due("third", x.undo(), 1);
            due("height", x.cellOf(7, 0), heightBehind(3));
            due("fourth", x.undo(), 0);
            due("height", x.cellOf(7, 0), heightBehind(2));
        });
    }

    private static void whatRecords() {
        says(11, "Each call of a method that is described as an act", () -> {
            TideBoats x = new TideBoats();
            x.sand(7, 0, false);
            due("sand", x.count(13), 1);
            x.boat(0, 1, 7);
            due("boat", x.count(13), 2);
            x.set(0, 2);
            due("set", x.count(13), 3);
            due("undo is none", x.undo(), 2);
            due("undo is none", x.undo(), 1);
            due("undo is none", x.undo(), 0);
            x.boat(0, 1, 7);
            x.pause();
            due("pause", x.count(13), 2);
            x.pause();
            x.move(0, RIGHT, 1);
            due("move", x.count(13), 4);
            x.undo();
            x.undo();
            x.undo();
            x.keep();
            due("keep is none", x.count(13), 1);
            x.restore();
            due("restore", x.count(13), 2);
            write(x, "w;w");
            due("a text is none", x.count(13), 2);
            x.doAll();
            due("doAll", x.count(13), 3);
        });
    }

    private static void whatRecordsNot() {
        says(11, "Each call of a method that is described as an act, and returns no error and not NONE", () -> {
            TideBoats x = pair();
            x.undo();
            x.undo();
            due("states", x.count(13), 2);
            x.type('w');
            x.fault();
            x.clearText();
            x.keep();
            x.cellOf(7, 0);
            x.boatOf(0, 6);
            x.tide(5);
            x.why(0, RIGHT, 1);
            x.count(12);
            x.afloat(7, 1);
            x.floatsIn(0);
            x.homeIn(0, 0);
            x.homeIn(0, 1);
            x.inDanger(0);
            x.best();
            due("states behind what is no act", x.count(13), 2);
        });
    }

    private static void refusedRecordsNothing() {
        says(11, "and returns no error and not NONE, records the state that was before it", () -> {
            TideBoats x = acts(2);
            x.boat(0, 1, 10);
            x.sand(36, 1, false);
            x.sand(7, 5, false);
            x.sand(0, 1, false);
            x.sand(8, 1, false);
            x.boat(2, 1, 8);
            x.boat(0, 4, 8);
            x.boat(0, 1, 10);
            x.set(0, 4);
            x.set(0, 1);
            x.move(1, 0, 1);
            x.move(0, 4, 1);
            x.move(0, RIGHT, 1);
            x.doAll();
            write(x, "w;a2=0");
            x.doAll();
            x.restore();
            due("states", x.count(13), 3);
            due("undo of the boat", x.undo(), 2);
            due("boats", x.count(5), 0);
            due("height", x.cellOf(7, 0), heightBehind(2));
            due("a wait without boats", x.pause(), NOT_POSSIBLE);
            due("states behind it", x.count(13), 2);
        });
    }

    private static void wholeState() {
        says(11, "A state is everything but the text, the history and the snapshot.", () -> {
            act("sand", Boards::pair, y -> y.sand(7, 3, true), 0);
            act("boat", Boards::pair, y -> y.boat(1, 3, 30), 2);
            act("last turn", Boards::pair, y -> y.set(3, 99), 60);
            act("steps of a rise", Boards::pair, y -> y.set(1, 4), 3);
            act("turns of a step", Boards::pair, y -> y.set(2, 2), 1);
            act("low water", Boards::pair, y -> y.set(0, 1), 3);
            act("turn", Boards::pair, TideBoats::pause, 4);
            act("cell and steps", Boards::pair, y -> y.move(0, LEFT, 2), 0);
            act("rammed", HistorySentencesTest::aground, y -> y.move(0, RIGHT, 1), 3);
            act("all of it", HistorySentencesTest::aground, HistorySentencesTest::doMuch, 4);
        });
        says(11, "everything but the text", () -> {
            TideBoats x = pair();
            x.keep();
            x.pause();
            write(x, "w;x");
            x.undo();
            due("length behind undo", x.count(14), 3);
            due("fault behind undo", x.fault(), 2);
            x.restore();
            due("length behind restore", x.count(14), 3);
            due("fault behind restore", x.fault(), 2);
            x.clearText();
            x.undo();
            due("an empty text stays so", x.count(14), 0);
        });
        says(11, "the history and the snapshot", () -> {
            TideBoats x = acts(3);
            x.keep();
            x.sand(7, 0, true);
            x.undo();
            x.undo();
            x.undo();
            due("states", x.count(13), 1);
            due("the snapshot is not undone", x.restore(), 0);
            due("height", x.cellOf(7, 0), heightBehind(3));
            due("the history is not restored", x.count(13), 2);
        });
    }

    /** Each number of a boat comes back, also where another boat had its number in between. */
    private static void otherBoats() {
        says(13, "A state is everything but the text, the history and the snapshot.", () -> {
            TideBoats x = deep();
            x.boat(1, 2, 14);
            x.pause();
            x.move(0, LEFT, 2);
            x.keep();
            for (int i = 0; i < 3; i++) {
                x.undo();
            }
            due("another boat", x.boat(0, 3, 34), 0);
            x.move(0, RIGHT, 1);
            due("turn", x.restore(), 2);
            int[] kept = {1, 2, ON_BOARD, 12, 1, 2};
            for (int what = 0; what < kept.length; what++) {
                due("what " + what + " of the boat of the snapshot", x.boatOf(0, what), kept[what]);
            }
            due("undo", x.undo(), 3);
            int[] other = {0, 3, HOME, NONE, 0, 1};
            for (int what = 0; what < other.length; what++) {
                due("what " + what + " of the other boat", x.boatOf(0, what), other[what]);
            }
        });
    }

    private static TideBoats aground() {
        TideBoats x = flat(0);
        x.boat(0, 1, 13);
        x.boat(1, 3, 14);
        x.boat(0, 1, 34);
        x.boat(1, 1, 20);
        return x;
    }

    /** Sand, a boat, a ram, and a wait. */
    private static int doMuch(TideBoats x) {
        write(x, "c4=3*;+11c5;0r1;w");
        return x.doAll();
    }

    private static void keepAnswers() {
        says(12, "Returns the turn.", () -> {
            due("of a new object", new TideBoats().keep(), 0);
            for (int turn : new int[] {0, 1, 7, 61}) {
                told("turn " + turn, () -> keptIn(turn), TideBoats::keep, turn);
            }
        });
    }

    /** The snapshot is of the turn that it is. */
    private static TideBoats keptIn(int turn) {
        TideBoats x = later(Boards::pair, turn);
        x.keep();
        return x;
    }

    private static void keepPlaces() {
        says(12, "Takes a snapshot of the state, in place of the one that was.", () -> {
            TideBoats x = pair();
            x.keep();
            pauses(x, 2);
            due("the second", x.keep(), 2);
            x.pause();
            due("restored", x.restore(), 2);
            for (int i = 0; i < 4; i++) {
                x.undo();
            }
            due("turn", x.count(0), 0);
            due("a third", x.keep(), 0);
            x.pause();
            due("restored then", x.restore(), 0);
            due("turn then", x.count(0), 0);
        });
        says(12, "There is one snapshot", () -> {
            TideBoats x = acts(1);
            x.keep();
            x.sand(7, 4, true);
            due("height", x.cellOf(7, 0), 4);
            x.keep();
            x.sand(7, 0, false);
            x.restore();
            due("height of the latest", x.cellOf(7, 0), 4);
            due("rock of the latest", x.cellOf(7, 1), 1);
            x.restore();
            due("height of the latest again", x.cellOf(7, 0), 4);
        });
    }

    private static void restoreAnswers() {
        says(13, "NONE if there is no snapshot", () -> {
            refused("at first", TideBoats::new, TideBoats::restore, NONE);
            refused("behind acts", () -> acts(3), TideBoats::restore, NONE);
            refused("in a later turn", () -> later(Boards::pair, 3), TideBoats::restore, NONE);
        });
        says(13, "Returns the turn then", () -> {
            for (int turn : new int[] {0, 1, 7, 61}) {
                TideBoats x = keptIn(turn);
                x.undo();
                due("turn " + turn, x.restore(), turn);
                due("turn told", x.count(0), turn);
            }
        });
    }

    private static void restoreStays() {
        says(13, "Restores the state of the snapshot, which stays.", () -> {
            TideBoats x = acts(2);
            x.keep();
            for (int i = 0; i < 3; i++) {
                x.sand(7, 0, true);
                x.boat(0, 1, 7);
                due("turn", x.restore(), 0);
                due("height", x.cellOf(7, 0), heightBehind(2));
                due("rock", x.cellOf(7, 1), 0);
                due("boats", x.count(5), 0);
            }
        });
        says(13, "everything but the text, the history and the snapshot", () -> {
            TideBoats x = aground();
            x.keep();
            due("much is done", doMuch(x), 4);
            x.move(3, DOWN, 1);
            x.restore();
            int[] counts = {0, 0, 1, 0, 0, 4, 4, 0, 0, 1, 0, 0};
            for (int what = 0; what < counts.length; what++) {
                due("count " + what, x.count(what), counts[what]);
            }
            due("cell of the boat 0", x.boatOf(0, 3), 13);
            due("steps of the boat 0", x.boatOf(0, 5), 0);
            due("how the boat 1 is", x.boatOf(1, 2), ON_BOARD);
            due("sand", x.cellOf(20, 0), 0);
            due("rock", x.cellOf(20, 1), 0);
            due("length", x.count(14), 17);
        });
    }

    private static void restoreIsAnAct() {
        says(13, "This is an act.", () -> {
            act("restore of another turn", HistorySentencesTest::keptAndWaited, TideBoats::restore, 3);
            act("restore of the same state", () -> keptIn(3), TideBoats::restore, 3);
            TideBoats x = keptAndWaited();
            x.restore();
            due("undo", x.undo(), 3);
            due("turn", x.count(0), 5);
            due("the state ahead of it", x.undo(), 2);
            due("its turn", x.count(0), 4);
        });
    }

    private static TideBoats keptAndWaited() {
        TideBoats x = keptIn(3);
        pauses(x, 2);
        return x;
    }
}
