import java.util.function.ToIntFunction;

/** The sentences on errors, which hold for the calls of all promises. */
public final class ErrorSentencesTest extends Sentences {
    public static void main(String[] args) {
        constants();
        severalErrors();
        severalErrorsOfMoves();
        noneIsNoError();
        errorsChangeNothing();
        noneChangesNothing();
        answersChangeNothing();
        manyCalls();
        end();
    }

    private static void constants() {
        says(1, "`UNKNOWN = -1`: There is no such cell, boat, player or turn.", () -> {
            due("the constant", TideBoats.UNKNOWN, -1);
            due("no such cell", game().cellOf(36, 0), -1);
            due("no such boat", game().boatOf(4, 0), -1);
            due("no such player", game().inDanger(2), -1);
            due("no such turn", game().tide(1001), -1);
        });
        says(1, "`BAD_VALUE = -2`: Another argument is out of range.", () -> {
            due("the constant", TideBoats.BAD_VALUE, -2);
            due("another argument", game().cellOf(35, 4), -2);
        });
        says(1, "`FULL = -3`: There is no more room.", () -> {
            due("the constant", TideBoats.FULL, -3);
            TideBoats x = game();
            for (int i = x.count(14); i < 60; i++) {
                x.type('w');
            }
            due("no room for a character", x.type('w'), -3);
        });
        says(1, "`NOT_POSSIBLE = -4`: This is not possible.", () -> {
            due("the constant", TideBoats.NOT_POSSIBLE, -4);
            due("not possible", game().sand(7, 0, false), -4);
        });
        says(1, "`NONE = -5`: There is no such thing; not an error.", () -> {
            due("the constant", TideBoats.NONE, -5);
            due("no such thing", game().cellOf(35, 3), -5);
        });
    }

    /** The turn 4 of a game with a history, a snapshot of the turn 2 and a text; the boat 3 is rammed. */
    private static TideBoats game() {
        TideBoats x = flat(0);
        x.sand(9, 3, true);
        x.boat(0, 1, 13);
        x.boat(1, 1, 21);
        x.boat(0, 1, 34);
        x.boat(1, 3, 15);
        x.move(0, RIGHT, 2);
        x.move(1, DOWN, 1);
        x.keep();
        x.move(2, RIGHT, 1);
        x.pause();
        write(x, "w;0r1;a1=0");
        return x;
    }

    private static void severalErrors() {
        says(1, "Where several errors can apply, the order of the @return line is the order of the checks.", () -> {
            // The turn is 4: that forbids the sand, the boat and the setting too.
            unchanged("sand: cell, height and turn", y -> y.sand(36, 5, true), UNKNOWN);
            unchanged("sand: height, harbour and turn", y -> y.sand(0, 5, true), BAD_VALUE);
            unchanged("sand: turn, and as it is", y -> y.sand(9, 3, true), NOT_POSSIBLE);
            unchanged("boat: player, draft, harbour and turn", y -> y.boat(2, 0, 0), UNKNOWN);
            unchanged("boat: cell, draft and turn", y -> y.boat(1, 4, 36), UNKNOWN);
            unchanged("boat: draft, harbour and turn", y -> y.boat(1, 4, 0), BAD_VALUE);
            unchanged("set: which, value and turn", y -> y.set(4, 100), BAD_VALUE);
            unchanged("set: value and turn", y -> y.set(3, 9), BAD_VALUE);
            unchanged("set: turn, and as it is", y -> y.set(3, 60), NOT_POSSIBLE);
            unchanged("cellOf: cell and what", y -> y.cellOf(36, 4), UNKNOWN);
            unchanged("boatOf: boat and what", y -> y.boatOf(4, 7), UNKNOWN);
            unchanged("homeIn: boat and way", y -> y.homeIn(4, 2), UNKNOWN);
            unchanged("homeIn: way, and wrecked", y -> y.homeIn(3, 2), BAD_VALUE);
            unchanged("homeIn: wrecked, and never home", y -> y.homeIn(3, 1), NOT_POSSIBLE);
            refused("best: over, and no move", TideBoats::new, TideBoats::best, NOT_POSSIBLE);
        });
    }

    private static void severalErrorsOfMoves() {
        says(5, "Where several errors can apply, the order of the @return line is the order of the checks.", () -> {
            unchanged("boat, direction and steps", y -> y.move(4, 4, 4), UNKNOWN);
            unchanged("direction, and wrecked", y -> y.move(3, 4, 1), BAD_VALUE);
            unchanged("steps, and home", y -> y.move(2, LEFT, 4), BAD_VALUE);
        });
        says(17, "Where several errors can apply, the order of the @return line is the order of the checks.", () -> {
            unchanged("boat, direction and steps", y -> y.why(4, 4, 4), UNKNOWN);
            unchanged("direction, and wrecked", y -> y.why(3, -1, 1), BAD_VALUE);
            unchanged("steps, and home", y -> y.why(2, LEFT, 0), BAD_VALUE);
        });
        says(10, "Where several errors can apply, the order of the @return line is the order of the checks.", () -> {
            TideBoats x = game();
            write(x, "9r1;a1=0;x");
            due("a fault behind orders that cannot be done", x.doAll(), -109);
            write(x, "9r1;a1=0;w");
            due("the first of two errors", x.doAll(), UNKNOWN);
            write(x, "a1=0;9r1;w");
            due("the first of them the other way round", x.doAll(), NOT_POSSIBLE);
        });
    }

    private static void noneIsNoError() {
        says(2, "NONE is no error; it is returned only if no error applies.", () -> {
            due("sand of a harbour as it is", new TideBoats().sand(0, 0, false), NOT_POSSIBLE);
            due("sand as it is, in the turn 4", game().sand(9, 3, true), NOT_POSSIBLE);
            due("sand as it is", new TideBoats().sand(1, 1, false), NONE);
        });
        says(4, "NONE is no error; it is returned only if no error applies.", () -> {
            due("a setting as it is, in the turn 4", game().set(0, 1), NOT_POSSIBLE);
            due("a setting as it is", new TideBoats().set(0, 1), NONE);
        });
        says(10, "NONE is no error; it is returned only if no error applies.", () -> {
            TideBoats x = new TideBoats();
            write(x, "a2=1;a3=1");
            due("orders that return NONE", x.doAll(), 2);
        });
        says(20, "NONE is no error; it is returned only if no error applies.", () -> {
            due("floatsIn of a boat that is wrecked", game().floatsIn(3), NOT_POSSIBLE);
            due("homeIn of a boat that is home", game().homeIn(2, 0), NOT_POSSIBLE);
        });
        says(23, "NONE is no error; it is returned only if no error applies.", () -> {
            due("best of a game that is over, without a move", new TideBoats().best(), NOT_POSSIBLE);
        });
    }

    private static void errorsChangeNothing() {
        says(1, "A call that returns an error or NONE changes nothing.", () -> {
            unchanged("sand", y -> y.sand(7, 0, true), NOT_POSSIBLE);
            unchanged("sand in a harbour", y -> y.sand(0, 1, true), NOT_POSSIBLE);
            unchanged("sand of a height 5", y -> y.sand(7, 5, true), BAD_VALUE);
            unchanged("sand in no cell", y -> y.sand(36, 0, true), UNKNOWN);
            unchanged("boat", y -> y.boat(0, 1, 7), NOT_POSSIBLE);
            unchanged("boat of a draft 4", y -> y.boat(0, 4, 7), BAD_VALUE);
            unchanged("boat of no player", y -> y.boat(2, 1, 7), UNKNOWN);
            unchanged("set", y -> y.set(0, 0), NOT_POSSIBLE);
            unchanged("set of a value too high", y -> y.set(0, 4), BAD_VALUE);
            unchanged("move of no boat", y -> y.move(4, 0, 1), UNKNOWN);
            unchanged("move by 4 steps", y -> y.move(0, 0, 4), BAD_VALUE);
            unchanged("move of one that is home", y -> y.move(2, LEFT, 1), -12);
            unchanged("move of the other player's", y -> y.move(1, UP, 1), -13);
            unchanged("move off the board", y -> y.move(0, UP, 3), -15);
            unchanged("doAll with an error", TideBoats::doAll, -13);
            unchanged("homeIn of no boat", y -> y.homeIn(4, 0), UNKNOWN);
            unchanged("homeIn of one that is home", y -> y.homeIn(2, 1), NOT_POSSIBLE);
            unchanged("homeIn in no way", y -> y.homeIn(0, 2), BAD_VALUE);
            unchanged("floatsIn of one that is wrecked", y -> y.floatsIn(3), NOT_POSSIBLE);
            unchanged("inDanger of no player", y -> y.inDanger(-1), UNKNOWN);
            unchanged("tide of no turn", y -> y.tide(-1), UNKNOWN);
            unchanged("count of nothing", y -> y.count(19), BAD_VALUE);
            unchanged("why of no boat", y -> y.why(4, 0, 1), UNKNOWN);
            unchanged("cellOf no cell", y -> y.cellOf(36, 0), UNKNOWN);
            unchanged("boatOf no boat", y -> y.boatOf(4, 0), UNKNOWN);
        });
    }

    private static void unchanged(String what, ToIntFunction<TideBoats> call, int answer) {
        refused(what, ErrorSentencesTest::game, call, answer);
    }

    private static void noneChangesNothing() {
        says(11, "A call that returns an error or NONE changes nothing.", () -> {
            refused("undo", ErrorSentencesTest::undone, TideBoats::undo, NONE);
            refused("sand", ErrorSentencesTest::undone, y -> y.sand(1, 0, false), NONE);
            refused("set", ErrorSentencesTest::undone, y -> y.set(3, 60), NONE);
            refused("restore", TideBoats::new, TideBoats::restore, NONE);
            unchanged("no boat in a cell", y -> y.cellOf(35, 3), NONE);
            unchanged("no cell of a boat", y -> y.boatOf(2, 3), NONE);
        });
    }

    /** A board of the turn 0 with an empty history and a snapshot. */
    private static TideBoats undone() {
        TideBoats x = flat(0);
        x.keep();
        for (int i = 0; i < 4; i++) {
            x.undo();
        }
        return x;
    }

    private static void answersChangeNothing() {
        says(23, "Finds the best move", () -> {
            unchanged("best", TideBoats::best, 2);
            unchanged("homeIn, forwards", y -> y.homeIn(0, 0), 3);
            unchanged("homeIn, backwards", y -> y.homeIn(0, 1), 3);
            unchanged("inDanger", y -> y.inDanger(0), 0);
            unchanged("floatsIn", y -> y.floatsIn(0), 0);
            unchanged("why", y -> y.why(0, RIGHT, 1), 0);
            unchanged("tide", y -> y.tide(3), 4);
            unchanged("fault", TideBoats::fault, NONE);
        });
    }

    private static void manyCalls() {
        says(11, "An object is used for at most 512 calls after it has been made", () -> {
            TideBoats x = new TideBoats();
            for (int call = 1; call <= 507; call++) {
                due("call " + call, x.sand(7, call % 2 == 1 ? 4 : 2, false), call == 1 ? 1 : call % 2 == 1 ? 2 : 4);
            }
            for (int left = 3; left >= 0; left--) {
                due("undo", x.undo(), left);
            }
            due("the call 512", x.cellOf(7, 0), 4);
        });
        says(23, "Finds the best move of the player whose turn it is", () -> {
            TideBoats x = deep();
            for (int boat = 0; boat < 10; boat++) {
                x.boat(0, 1, 7 + boat);
            }
            int first = x.best();
            for (int call = 47; call <= 512; call++) {
                due("call " + call, x.best(), first);
            }
        });
        says(21, "1: told by cells from the harbour on, backwards from each turn (the same)", () -> {
            TideBoats x = channel();
            for (int call = 40; call <= 512; call++) {
                due("call " + call, x.homeIn(0, call % 2), NONE);
            }
        });
    }

    /** A boat that can go to and fro up to the turn 99, and never home. */
    private static TideBoats channel() {
        TideBoats x = flat(0);
        x.set(3, 99);
        x.boat(0, 1, 1);
        x.sand(34, 4, false);
        x.sand(29, 4, false);
        return x;
    }
}
