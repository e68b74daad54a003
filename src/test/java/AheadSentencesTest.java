import java.util.function.Supplier;

/** The sentences on what would be: promises 20 to 23. */
public final class AheadSentencesTest extends Sentences {
    public static void main(String[] args) {
        floatsInArguments();
        floatsInNumbers();
        floatsInNever();
        homeInArguments();
        homeInOrder();
        homeInTurns();
        homeInWaits();
        homeInWays();
        homeInRocks();
        homeInStandsOnRocks();
        homeInLastTurn();
        homeInOver();
        dangerArguments();
        dangerSets();
        dangerOfRocks();
        dangerIsWhatAWaitDoes();
        bestErrors();
        bestNone();
        bestHome();
        bestRam();
        bestAhead();
        bestAheadOfRocks();
        bestOfSeveral();
        bestNumbers();
        end();
    }

    /** High sand but for a way along the row of the player 1's harbour, of one height. */
    private static TideBoats channel(int cells, int height) {
        TideBoats x = flat(4);
        for (int cell = 1; cell <= cells; cell++) {
            x.sand(cell, height, false);
        }
        return x;
    }

    private static void floatsInArguments() {
        says(20, "`boat`: a boat", () -> {
            told("boat 0 of none", TideBoats::new, y -> y.floatsIn(0), UNKNOWN);
            told("boat 2 of two", Boards::pair, y -> y.floatsIn(2), UNKNOWN);
            told("boat 1 of two", Boards::pair, y -> y.floatsIn(1), 0);
            for (int boat : OUTSIDE) {
                told("boat " + boat, Boards::pair, y -> y.floatsIn(boat), UNKNOWN);
            }
        });
        says(20, "UNKNOWN; NOT_POSSIBLE if it is not on the board; NONE if it never does there", () -> {
            told("home", Boards::fates, y -> y.floatsIn(0), NOT_POSSIBLE);
            told("rammed, where it never floats", Boards::fates, y -> y.floatsIn(1), NOT_POSSIBLE);
            TideBoats x = reef();
            x.boat(0, 1, 14);
            x.boat(1, 1, 31);
            pauses(x, 3);
            due("wrecked, with water on its rock", x.floatsIn(0), NOT_POSSIBLE);
            due("a boat more than there are", x.floatsIn(2), UNKNOWN);
        });
    }

    private static void floatsInNumbers() {
        says(20, "Returns 0 if it does now", () -> {
            for (int draft = 1; draft <= 3; draft++) {
                TideBoats x = deep();
                x.boat(0, draft, 14);
                due("more water", x.floatsIn(0), 0);
                x.sand(14, 3 - draft, false);
                due("so much water", x.floatsIn(0), 0);
                x.sand(14, 3 - draft + 1, false);
                due("1 less", x.floatsIn(0), 1);
            }
        });
        says(20, "Tells in how many turns a boat floats where it is, by the tide alone", () -> {
            for (int setting = 0; setting < 48; setting++) {
                for (int draft = 1; draft <= 3; draft++) {
                    floatsInAll(setting % 4, 1 + setting / 4 % 4, 1 + setting / 16, draft);
                }
            }
        });
        says(20, "(also beyond the last turn)", () -> {
            TideBoats x = new TideBoats();
            x.set(3, 10);
            x.sand(14, 3, false);
            x.boat(0, 1, 14);
            pauses(x, 10);
            due("in the last turn", x.floatsIn(0), 5);
            x.pause();
            due("over", x.count(11), 1);
            due("in a game that is over", x.floatsIn(0), 4);
        });
    }

    /** Each turn of a tide and a half, on the sand 2. */
    private static void floatsInAll(int low, int rise, int span, int draft) {
        TideBoats x = new TideBoats();
        x.set(0, low);
        x.set(1, rise);
        x.set(2, span);
        x.sand(14, 2, false);
        x.boat(0, draft, 14);
        int all = 2 * rise * span;
        for (int turn = 0; turn < all + all / 2; turn++) {
            int wait = 0;
            while (wait < all && x.tide(turn + wait) - 2 < draft) {
                wait++;
            }
            due("draft " + draft + " in the turn " + turn + " of " + all, x.floatsIn(0), wait == all ? NONE : wait);
            x.pause();
        }
    }

    private static void floatsInNever() {
        says(20, "NONE if it never does there", () -> {
            TideBoats x = new TideBoats();
            x.boat(0, 3, 14);
            x.boat(1, 3, 15);
            x.sand(15, 2, true);
            due("only in the turn 3", x.floatsIn(0), 3);
            due("1 less", x.floatsIn(1), NONE);
            pauses(x, 3);
            due("in the turn 3", x.floatsIn(0), 0);
            due("1 less in the turn 3", x.floatsIn(1), NONE);
            x.pause();
            due("behind it, in the next tide", x.floatsIn(0), 5);
        });
        says(20, "where it is", () -> {
            TideBoats x = pair();
            x.sand(15, 4, true);
            due("beside a high rock", x.floatsIn(0), 0);
            due("the other player's boat in its turn", later(Boards::pair, 1).floatsIn(0), 0);
        });
    }

    /** In how many turns the boat is home, told in both ways. */
    private static void home(String what, TideBoats x, int boat, int want) {
        due(what + ", forwards", x.homeIn(boat, 0), want);
        due(what + ", backwards", x.homeIn(boat, 1), want);
    }

    private static void homeInArguments() {
        says(21, "`boat`: a boat", () -> {
            told("boat 0 of none", TideBoats::new, y -> y.homeIn(0, 0), UNKNOWN);
            told("boat 2 of two", Boards::pair, y -> y.homeIn(2, 1), UNKNOWN);
            for (int boat : OUTSIDE) {
                told("boat " + boat, Boards::pair, y -> y.homeIn(boat, 0), UNKNOWN);
                told("boat " + boat, Boards::pair, y -> y.homeIn(boat, 1), UNKNOWN);
            }
            told("boat 1 of two", Boards::pair, y -> y.homeIn(1, 0), 4);
            told("boat 1 of two", Boards::pair, y -> y.homeIn(1, 1), 4);
        });
        says(21, "`way`: 0: told by the cells where it can be, turn by turn; 1: told by cells from the harbour on", () -> {
            told("way 0", Boards::pair, y -> y.homeIn(0, 0), 3);
            told("way 1", Boards::pair, y -> y.homeIn(0, 1), 3);
            told("way 2", Boards::pair, y -> y.homeIn(0, 2), BAD_VALUE);
            for (int way : OUTSIDE) {
                told("way " + way, Boards::pair, y -> y.homeIn(0, way), BAD_VALUE);
            }
        });
    }

    private static void homeInOrder() {
        says(21, "UNKNOWN; BAD_VALUE; NOT_POSSIBLE if it is not on the board; NONE if it cannot", () -> {
            told("boat ahead of way", Boards::pair, y -> y.homeIn(2, 2), UNKNOWN);
            told("boat below ahead of way", Boards::pair, y -> y.homeIn(-1, -1), UNKNOWN);
            told("way ahead of home", Boards::fates, y -> y.homeIn(0, 2), BAD_VALUE);
            told("way ahead of wrecked", Boards::fates, y -> y.homeIn(1, -1), BAD_VALUE);
            told("way ahead of none", Boards::pairAtTheEnd, y -> y.homeIn(0, 2), BAD_VALUE);
            for (int way = 0; way < 2; way++) {
                int told = way;
                told("home", Boards::fates, y -> y.homeIn(0, told), NOT_POSSIBLE);
                told("wrecked ahead of none", Boards::fates, y -> y.homeIn(1, told), NOT_POSSIBLE);
                told("home ahead of over", () -> later(Boards::fates, 60), y -> y.homeIn(0, told), NOT_POSSIBLE);
                told("over", Boards::pairAtTheEnd, y -> y.homeIn(0, told), NONE);
            }
        });
    }

    private static TideBoats deepBoat(int player, int cell) {
        TideBoats x = deep();
        x.boat(player, 3, cell);
        return x;
    }

    private static void homeInTurns() {
        says(21, "Returns how many turns, the one of its last move counted", () -> {
            int[][] near = {{34, 33, 32, 29, 23, 17}, {1, 2, 3, 6, 12, 18}};
            int[][] far = {{31, 28, 1}, {4, 7, 34}};
            for (int player = 0; player < 2; player++) {
                int owner = player;
                for (int cell : near[player]) {
                    home("one move from " + cell, later(() -> deepBoat(owner, cell), player), 0, 1);
                    home("in the other's turn", later(() -> deepBoat(owner, cell), 1 - player), 0, 2);
                }
                home("two moves along a side", later(() -> deepBoat(owner, far[owner][0]), player), 0, 3);
                home("two moves round a corner", later(() -> deepBoat(owner, far[owner][1]), player), 0, 3);
                home("beside the other harbour", later(() -> deepBoat(owner, far[owner][2]), player), 0, 7);
            }
        });
        says(21, "in each of its turns as well as can be", () -> {
            home("four steps and five", deepBoat(0, 1), 0, 7);
            home("three steps and three", deepBoat(0, 14), 0, 3);
            home("three steps and four", deepBoat(0, 13), 0, 5);
            home("five steps and five", deepBoat(0, 6), 0, 7);
        });
    }

    private static void homeInWaits() {
        says(21, "or waited", () -> {
            // Draft 1 on the sand 3: water in the turn 3 alone, then in the turn 9.
            TideBoats x = channel(5, 3);
            x.boat(1, 1, 3);
            x.boat(1, 1, 5);
            home("up to the turn 3", x, 0, 4);
            home("up to the turn 9", x, 1, 10);
            pauses(x, 3);
            home("in the turn 3", x, 0, 1);
            home("two moves in the turn 3", x, 1, 7);
            x.pause();
            home("behind the turn 3", x, 0, 6);
        });
        says(21, "its player moved it in each of its turns as well as can be, or waited", () -> {
            // Steps of 2 turns: it goes to and fro in deep water, up to the turn 7 with water on the bar.
            TideBoats x = channel(4, 0);
            x.set(2, 2);
            x.sand(1, 3, false);
            x.sand(2, 3, false);
            x.boat(1, 1, 4);
            home("behind a bar", x, 0, 8);
            x.pause();
            home("the same a turn later", x, 0, 7);
            pauses(x, 7);
            home("behind that turn", x, 0, 12);
        });
        says(21, "Tells in how many turns from now on a boat could be home", () -> {
            TideBoats x = flat(4);
            x.boat(0, 1, 34);
            home("on the sand 4", x, 0, NONE);
            x.sand(34, 1, false);
            home("on the sand 1", x, 0, 3);
            x.sand(34, 0, false);
            home("on the sand 0", x, 0, 1);
            x.sand(34, 4, true);
            home("on a rock that is too high", x, 0, NONE);
            x.undo();
            home("on the sand 0 again", x, 0, 1);
        });
        says(21, "if no other boat was there", () -> {
            TideBoats x = channel(5, 0);
            x.boat(1, 1, 5);
            home("alone", x, 0, 4);
            for (int cell = 1; cell < 5; cell++) {
                x.boat(1, 1 + cell % 3, cell);
            }
            home("behind others", x, 0, 4);
            due("no move", x.boatOf(0, 6), 0);
            TideBoats y = channel(1, 0);
            y.boat(1, 2, 1);
            y.boat(0, 3, 34);
            home("with water in the turn 1", y, 0, 2);
            home("never afloat", y, 1, NONE);
        });
    }

    private static void homeInWays() {
        says(21, "NONE if it cannot", () -> {
            TideBoats x = channel(2, 0);
            x.boat(1, 3, 2);
            home("a way", x, 0, 4);
            x.sand(1, 2, false);
            home("a bar that is too high", x, 0, NONE);
            x.sand(1, 1, false);
            home("a bar with water in the turn 3", x, 0, 4);
            x.sand(2, 4, false);
            home("it never floats", x, 0, NONE);
        });
        says(21, "backwards from each turn (the same)", () -> {
            TideBoats x = flat(4);
            for (int cell : new int[] {6, 1, 2, 3, 4, 5, 11, 17, 23, 29}) {
                x.sand(cell, 0, false);
            }
            x.boat(0, 1, 6);
            x.boat(0, 1, 1);
            home("only over the other harbour", x, 0, NONE);
            home("on the other side of it", x, 1, 7);
        });
    }

    private static void homeInRocks() {
        says(21, "it may not stand on a rock as it comes aground", () -> {
            // The tide 1, 2, 1, 2: the player 1's turns have water on the sand 1, the others none.
            TideBoats x = channel(5, 1);
            x.set(1, 1);
            x.boat(1, 1, 5);
            home("over sand alone", x, 0, 4);
            x.sand(2, 1, true);
            home("one rock where it could stand", x, 0, 4);
            x.sand(3, 1, true);
            home("two of them", x, 0, 6);
            x.sand(4, 1, true);
            home("rocks alone", x, 0, NONE);
            x.sand(1, 1, true);
            home("rocks all the way", x, 0, NONE);
            x.undo();
            x.undo();
            x.sand(4, 1, false);
            home("the rocks 2 and 3", x, 0, 6);
        });
        says(21, "rocks and the last turn counted", () -> {
            TideBoats x = channel(3, 1);
            x.set(1, 1);
            x.sand(1, 1, true);
            x.sand(2, 1, true);
            x.sand(3, 1, true);
            x.boat(1, 1, 3);
            home("aground on a rock at first, over rocks in one move", x, 0, 2);
            x.pause();
            home("afloat on the rock in its turn", x, 0, 1);
        });
    }

    private static void homeInStandsOnRocks() {
        says(21, "may not stand on a rock as it comes aground", () -> {
            // Draft 1 on the sand 2: water in the turns 2, 3, 4, and again in 8, 9, 10.
            home("in the other's turn, the water goes", onRock(true, 4), 0, NONE);
            home("the same on sand", onRock(false, 4), 0, 6);
            home("in its turn, the water stays", onRock(true, 3), 0, 1);
            home("in the other's turn, the water stays", onRock(true, 2), 0, 2);
            home("aground at first", onRock(true, 0), 0, 4);
            home("aground on sand at first", onRock(false, 0), 0, 4);
            TideBoats x = channel(4, 0);
            x.boat(1, 1, 4);
            for (int cell = 1; cell <= 4; cell++) {
                x.sand(cell, 0, true);
            }
            home("rocks that are never aground", x, 0, 4);
        });
    }

    private static TideBoats onRock(boolean rock, int turn) {
        TideBoats x = channel(1, 2);
        x.sand(1, 2, rock);
        x.boat(1, 1, 1);
        x.boat(0, 1, 34);
        pauses(x, turn);
        return x;
    }

    private static void homeInLastTurn() {
        says(21, "the turn of its last move has to be at most the setting 3", () -> {
            for (int last : new int[] {10, 11, 60, 99}) {
                int player = last % 2;
                Supplier<TideBoats> one = () -> lastTurn(last, player == 0 ? 34 : 1);
                Supplier<TideBoats> two = () -> lastTurn(last, player == 0 ? 31 : 4);
                home("one move in the last turn", later(one, last), 0, 1);
                home("one move in the turn ahead", later(one, last - 1), 0, 2);
                home("two moves in the last turn", later(two, last), 0, NONE);
                home("two moves in the turn ahead", later(two, last - 1), 0, NONE);
                home("two moves in time", later(two, last - 2), 0, 3);
                home("two moves three turns ahead", later(two, last - 3), 0, 4);
                home("one move behind the last turn", later(one, last + 1), 0, NONE);
            }
        });
        says(21, "the last turn counted", () -> {
            TideBoats x = lastTurn(10, 34);
            x.boat(1, 1, 1);
            pauses(x, 9);
            home("of the other player, in the last but one", x, 1, 1);
            x.pause();
            home("of the other player, in the last turn", x, 1, NONE);
        });
    }

    private static TideBoats lastTurn(int last, int cell) {
        TideBoats x = deepBoat(last % 2, cell);
        x.set(3, last);
        return x;
    }

    private static void homeInOver() {
        says(21, "so that a game that is over lets none", () -> {
            TideBoats x = lastTurn(10, 34);
            x.boat(1, 1, 1);
            pauses(x, 11);
            due("over", x.count(11), 1);
            home("of the player 0", x, 0, NONE);
            home("of the player 1, whose turn it would be", x, 1, NONE);
        });
    }

    private static void dangerArguments() {
        says(22, "`player`: 0 or 1", () -> {
            told("player 0", Boards::pair, y -> y.inDanger(0), 0);
            told("player 1", Boards::pair, y -> y.inDanger(1), 0);
            told("player 2", Boards::pair, y -> y.inDanger(2), UNKNOWN);
            for (int player : OUTSIDE) {
                told("player " + player, Boards::pair, y -> y.inDanger(player), UNKNOWN);
            }
        });
        says(22, "Returns the boats as a set (0 if the game is over); UNKNOWN.", () -> {
            told("before any boat came", TideBoats::new, y -> y.inDanger(0), 0);
            told("no such player, over", TideBoats::new, y -> y.inDanger(2), UNKNOWN);
            told("no such player below, over", Boards::pairAtTheEnd, y -> y.inDanger(-1), UNKNOWN);
            // Steps of 3 turns: the water goes behind the turn 11.
            told("in the last turn", () -> danger(11), y -> y.inDanger(0), 1);
            told("behind the last turn", () -> danger(10), y -> y.inDanger(0), 0);
            TideBoats x = danger(11);
            x.pause();
            due("over, wrecked", x.inDanger(0), 0);
        });
    }

    /** The turn 11, the last one with water on the rock of the boat 0. */
    private static TideBoats danger(int last) {
        TideBoats x = new TideBoats();
        x.set(2, 3);
        x.set(3, last);
        x.sand(14, 3, true);
        x.boat(0, 1, 14);
        x.boat(1, 1, 31);
        pauses(x, 11);
        return x;
    }

    private static void dangerSets() {
        says(22, "Returns the boats as a set", () -> {
            for (int boat = 0; boat < 10; boat++) {
                TideBoats x = rockFleet(boat);
                due("the boat " + boat, x.inDanger(boat % 2), 1 << boat);
                due("of the other player", x.inDanger(1 - boat % 2), 0);
            }
            due("all of the player 0", rockFleet(-1).inDanger(0), 1 + 4 + 16 + 64 + 256);
            due("all of the player 1", rockFleet(-1).inDanger(1), 2 + 8 + 32 + 128 + 512);
        });
        says(22, "that would be wrecked if the player whose turn it is waited", () -> {
            TideBoats x = rockFleet(-1);
            due("whose turn", x.count(1), 1);
            due("of the player 0 in the other's turn", x.inDanger(0), 341);
            x.undo();
            due("a turn ahead", x.inDanger(0), 0);
            TideBoats y = rockFleet(3);
            y.pause();
            due("wrecked", y.count(8), 1);
            due("wrecked already", y.inDanger(1), 0);
            y.pause();
            due("wrecked, with water on its rock", y.inDanger(1), 0);
        });
    }

    /** Ten boats afloat in the turn 1 and aground in the turn 2: one of them on a rock, or all (-1). */
    private static TideBoats rockFleet(int onRock) {
        TideBoats x = new TideBoats();
        x.set(1, 1);
        for (int boat = 0; boat < 10; boat++) {
            x.boat(boat % 2, 1, 6 + boat);
            x.sand(6 + boat, 1, boat == onRock || onRock < 0);
        }
        for (int cell = 16; cell < 22; cell++) {
            x.sand(cell, 0, true);
        }
        x.pause();
        return x;
    }

    private static void dangerOfRocks() {
        says(22, "Tells the boats of a player that would be wrecked", () -> {
            // Draft 1 on the rock 2: water 0, 0, 1, 2, 1, 0 in the turns of a tide.
            int[] due = {0, 0, 0, 0, 1, 0, 0};
            TideBoats x = new TideBoats();
            x.sand(14, 2, true);
            x.sand(15, 2, false);
            x.sand(16, 4, true);
            x.boat(0, 1, 14);
            x.boat(0, 1, 15);
            x.boat(0, 1, 16);
            for (int turn = 0; turn < due.length; turn++) {
                due("in the turn " + turn, x.inDanger(0), due[turn]);
                x.pause();
            }
            told("home and rammed", Boards::fates, y -> y.inDanger(0), 0);
        });
    }

    private static void dangerIsWhatAWaitDoes() {
        says(22, "would be wrecked if the player whose turn it is waited", () -> {
            for (int setting = 0; setting < 48; setting++) {
                TideBoats x = new TideBoats();
                x.set(0, setting % 4);
                x.set(1, 1 + setting / 4 % 4);
                x.set(2, 1 + setting / 16);
                for (int boat = 0; boat < 9; boat++) {
                    x.sand(7 + boat, boat / 3 * 2, true);
                    x.boat(boat % 2, 1 + boat % 3, 7 + boat);
                }
                x.boat(0, 1, 30);
                for (int turn = 0; turn < 26; turn++) {
                    int danger = x.inDanger(0) | x.inDanger(1);
                    int wrecked = x.count(8);
                    x.pause();
                    due("wrecked in " + turn, x.count(8) - wrecked, Integer.bitCount(danger));
                }
            }
        });
    }

    private static void bestErrors() {
        says(23, "NOT_POSSIBLE if the game is over", () -> {
            told("before any boat came", TideBoats::new, TideBoats::best, NOT_POSSIBLE);
            told("behind the last turn", Boards::pairAtTheEnd, TideBoats::best, NOT_POSSIBLE);
            TideBoats x = deepBoat(0, 34);
            due("one move home", x.best(), 1);
            x.move(0, RIGHT, 1);
            due("all home", x.best(), NOT_POSSIBLE);
            TideBoats y = deepBoat(0, 34);
            y.set(3, 10);
            pauses(y, 10);
            due("in the last turn", y.best(), 1);
            y.pause();
            due("behind it", y.best(), NOT_POSSIBLE);
        });
    }

    private static void bestNone() {
        says(23, "NONE if there is no move", () -> {
            told("all aground", () -> grounded(), TideBoats::best, NONE);
            told("no boat of the player", () -> later(() -> deepBoat(0, 14), 1), TideBoats::best, NONE);
            told("no way", () -> walled(), TideBoats::best, NONE);
        });
        says(23, "or none of these three holds for any", () -> {
            TideBoats x = deepBoat(0, 14);
            x.set(3, 10);
            pauses(x, 8);
            due("two moves in time", x.best(), 3);
            pauses(x, 2);
            due("moves in the last turn", x.count(12), 10);
            due("no way home in time", x.best(), NONE);
            TideBoats y = channel(5, 0);
            y.sand(1, 4, false);
            y.boat(1, 1, 4);
            y.pause();
            due("moves before a bar", y.count(12), 3);
            due("no way home at all", y.best(), NONE);
        });
    }

    private static TideBoats grounded() {
        TideBoats x = new TideBoats();
        x.boat(0, 1, 14);
        x.boat(1, 1, 15);
        return x;
    }

    /** A boat afloat with high sand round it. */
    private static TideBoats walled() {
        TideBoats x = flat(4);
        x.sand(14, 0, false);
        x.boat(0, 1, 14);
        return x;
    }

    private static void bestHome() {
        says(23, "the one by which a boat comes home, the one with the greatest draft", () -> {
            TideBoats x = deep();
            x.boat(0, 1, 34);
            due("one", x.best(), 1);
            x.boat(0, 3, 29);
            due("a greater draft", x.best(), 111);
            x.boat(0, 2, 17);
            due("a draft in between", x.best(), 111);
            due("it comes home", x.move(1, DOWN, 1), 0);
            due("of the other player", x.best(), NONE);
            x.pause();
            due("the next one", x.best(), 213);
        });
        says(23, "otherwise the one by which the boat with the greatest draft is rammed", () -> {
            TideBoats x = rams();
            x.boat(0, 1, 34);
            due("home, with the least draft, ahead of rammed", x.best(), 501);
            due("rammed if there is none", rams().best(), 21);
        });
    }

    /** In water 1: the boat 0 between boats of the drafts 2 (right), 3 (left) and 2 (below). */
    private static TideBoats rams() {
        TideBoats x = flat(0);
        x.boat(0, 1, 14);
        x.boat(1, 2, 15);
        x.boat(1, 3, 13);
        x.boat(1, 2, 20);
        x.boat(0, 1, 28);
        return x;
    }

    private static void bestRam() {
        says(23, "the boat with the greatest draft is rammed", () -> {
            TideBoats x = rams();
            due("draft 3", x.best(), 21);
            due("rammed", x.move(0, LEFT, 1), 3);
            TideBoats y = flat(0);
            y.boat(0, 1, 27);
            y.boat(1, 2, 21);
            due("a ram ahead of the way home", y.best(), 31);
            y.set(3, 10);
            y.set(1, 1);
            pauses(y, 10);
            due("in the last turn", y.best(), 31);
            // The draft that counts is that of the boat that is rammed, not of the one that rams.
            TideBoats z = flat(0);
            z.set(0, 2);
            z.boat(0, 2, 14);
            z.boat(1, 3, 15);
            z.sand(22, 1, false);
            z.boat(0, 1, 21);
            z.boat(1, 3, 22);
            due("the lowest of the same draft", z.best(), 1);
        });
        says(23, "of several the lowest boat, then direction, then steps", () -> {
            TideBoats x = flat(0);
            x.boat(1, 2, 15);
            x.boat(0, 1, 21);
            x.boat(0, 1, 14);
            due("the lower boat, by the higher direction", x.best(), 131);
            x.boat(1, 2, 27);
            x.boat(0, 1, 26);
            due("the lower direction of the lower boat", x.best(), 111);
        });
    }

    private static void bestAhead() {
        says(23, "could be home in the fewest turns more (as homeIn() tells)", () -> {
            TideBoats x = deep();
            x.boat(0, 1, 7);
            x.boat(0, 1, 27);
            due("the nearer one", x.best(), 102);
            x.undo();
            due("the farther one alone", x.best(), 1);
            // The boat that is moved counts, not one that stays and is nearer.
            TideBoats y = deep();
            y.sand(29, 4, false);
            y.sand(33, 4, false);
            y.boat(0, 1, 34);
            y.boat(0, 1, 27);
            due("home ahead of all", y.best(), 1);
            y.pause();
            due("no boat of the player", y.best(), NONE);
        });
        says(23, "behind which the boat that is moved could be home", () -> {
            TideBoats x = deepBoat(0, 30);
            due("two moves along a side", x.best(), 2);
            x.boat(1, 1, 32);
            due("a boat in the way of the move", x.best(), 1);
            x.undo();
            x.boat(1, 1, 34);
            due("a boat behind the move, which homeIn() does not count", x.best(), 2);
        });
    }

    private static void bestAheadOfRocks() {
        says(23, "the one behind which the boat that is moved could be home", () -> {
            // The tide 1, 2, 1, 2: behind each turn of the player 1 the water goes.
            TideBoats x = channel(5, 1);
            x.set(1, 1);
            x.sand(2, 1, true);
            x.sand(3, 1, true);
            x.boat(1, 1, 4);
            x.boat(0, 1, 34);
            x.pause();
            due("not onto a rock, by which it is wrecked", x.best(), 23);
            TideBoats y = channel(5, 1);
            y.set(1, 1);
            for (int cell = 1; cell <= 5; cell++) {
                y.sand(cell, 1, true);
            }
            y.boat(1, 1, 4);
            y.boat(0, 1, 34);
            y.pause();
            due("moves onto rocks alone", y.count(12), 4);
            due("none of them", y.best(), NONE);
            // Draft 1 on the sand 2: afloat in the turns 2, 3 and 4.
            TideBoats v = channel(5, 2);
            v.sand(2, 2, true);
            v.sand(3, 2, true);
            v.boat(1, 1, 5);
            pauses(v, 3);
            due("not onto a rock that has water for one more turn", v.best(), 21);
            TideBoats z = channel(5, 1);
            z.set(1, 1);
            z.boat(1, 1, 5);
            z.boat(0, 1, 34);
            z.pause();
            z.move(0, LEFT, 1);
            z.pause();
            due("the shortest of those that lead as far", z.best(), 21);
        });
    }

    private static void bestOfSeveral() {
        says(23, "of several the lowest boat", () -> {
            TideBoats x = deep();
            x.boat(0, 3, 34);
            x.boat(0, 3, 29);
            due("two that come home", x.best(), 1);
            TideBoats y = deep();
            y.boat(0, 1, 27);
            y.boat(0, 1, 22);
            due("two with the same turns", y.best(), 2);
            TideBoats z = deep();
            z.boat(0, 1, 22);
            z.boat(0, 1, 27);
            due("the same, numbered in the other order", z.best(), 1);
        });
        says(23, "then direction, then steps", () -> {
            due("right ahead of down", deepBoat(0, 14).best(), 3);
            due("of 2 and 3 steps the fewer", deepBoat(0, 30).best(), 2);
            due("left ahead of up", later(() -> deepBoat(1, 21), 1).best(), 23);
            due("up alone", later(() -> deepBoat(1, 30), 1).best(), 32);
            TideBoats x = deep();
            x.boat(0, 1, 28);
            due("right, then down", x.best(), 1);
            x.boat(1, 1, 29);
            due("down, then right", x.best(), 11);
        });
    }

    private static void bestNumbers() {
        says(23, "Returns 100 times the boat, 10 times the direction, and the steps, together", () -> {
            TideBoats x = deep();
            for (int boat = 0; boat < 9; boat++) {
                x.boat(0, 1, 26 + boat);
            }
            x.boat(1, 3, 18);
            x.pause();
            due("the highest", x.best(), 933);
            due("by that move", x.move(9, UP, 3), 0);
            due("it is home", x.boatOf(9, 2), HOME);
            due("the lowest", deepBoat(0, 34).best(), 1);
        });
        says(23, "Finds the best move of the player whose turn it is", () -> {
            told("the player 0", Boards::pair, TideBoats::best, 3);
            told("the player 1", () -> later(Boards::pair, 1), TideBoats::best, 123);
        });
    }
}
