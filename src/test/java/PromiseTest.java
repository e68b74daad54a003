/** What the document says, promise by promise, on small boards worked out by hand. */
public final class PromiseTest extends Boards {
    private static final Checks C = new Checks();

    public static void main(String[] args) {
        newObject();
        sand();
        boat();
        set();
        moveGoes();
        moveReasons();
        moveRams();
        moveHome();
        moveWrecks();
        pause();
        type();
        clearText();
        faults();
        doAll();
        doAllErrors();
        undo();
        keepAndRestore();
        restoreOtherBoats();
        cellOf();
        boatOf();
        tide();
        why();
        count();
        afloat();
        floatsIn();
        homeIn();
        homeInOnRocks();
        homeInAtTheEnd();
        homeInAgain();
        inDanger();
        best();
        bestOfNearest();
        C.end();
    }

    private static void newObject() {
        TideBoats x = new TideBoats();
        for (int cell = 0; cell < 36; cell++) {
            C.due("1: height", x.cellOf(cell, 0), cell == 0 || cell == 35 ? 0 : 1);
            C.due("1: rock", x.cellOf(cell, 1), 0);
            C.due("1: boat", x.cellOf(cell, 3), TideBoats.NONE);
        }
        int[] counts = {0, 0, 1, 0, 0, 0, 0, 0, 0, 0, 0, 1, 0, 0, 0, 1, 3, 1, 60};
        for (int what = 0; what < counts.length; what++) {
            C.due("1: count " + what, x.count(what), counts[what]);
        }
        C.due("1: undo", x.undo(), TideBoats.NONE);
        C.due("1: restore", x.restore(), TideBoats.NONE);
        C.due("1: fault", x.fault(), 0);
        TideBoats other = new TideBoats();
        other.sand(7, 4, true);
        other.set(0, 3);
        C.due("1: another object's sand", x.cellOf(7, 0), 1);
        C.due("1: another object's setting", x.count(15), 1);
    }

    private static void sand() {
        TideBoats x = new TideBoats();
        C.due("2: first", x.sand(1, 4, false), 1);
        C.due("2: second", x.sand(1, 0, true), 4);
        C.due("2: so already", x.sand(1, 0, true), TideBoats.NONE);
        C.due("2: rock alone", x.sand(1, 0, false), 0);
        C.due("2: last cell but one", x.sand(34, 3, true), 1);
        C.due("2: height of it", x.cellOf(34, 0), 3);
        C.due("2: rock of it", x.cellOf(34, 1), 1);
        C.due("2: acts", x.count(13), 4);
        for (int wrong : OUTSIDE) {
            C.due("2: cell", x.sand(wrong, 9, false), TideBoats.UNKNOWN);
            C.due("2: height", x.sand(0, wrong, false), TideBoats.BAD_VALUE);
        }
        C.due("2: cell 36", x.sand(36, 1, false), TideBoats.UNKNOWN);
        C.due("2: height 5", x.sand(35, 5, false), TideBoats.BAD_VALUE);
        C.due("2: harbour 0 as it is", x.sand(0, 0, false), TideBoats.NOT_POSSIBLE);
        C.due("2: harbour 35 with a rock", x.sand(35, 0, true), TideBoats.NOT_POSSIBLE);
        x.boat(0, 1, 1);
        C.due("2: below a boat", x.sand(1, 2, true), 0);
        x.pause();
        C.due("2: in the turn 1", x.sand(2, 2, false), TideBoats.NOT_POSSIBLE);
        C.due("2: in the turn 1, so already", x.sand(2, 1, false), TideBoats.NOT_POSSIBLE);
        C.due("2: nothing changed", x.cellOf(2, 0), 1);
        x.undo();
        C.due("2: back in the turn 0", x.sand(2, 2, false), 1);
    }

    private static void boat() {
        TideBoats x = new TideBoats();
        for (int i = 0; i < 10; i++) {
            C.due("3: number", x.boat(i % 2, 1 + i % 3, 1 + i), i);
            C.due("3: player", x.boatOf(i, 0), i % 2);
            C.due("3: draft", x.boatOf(i, 1), 1 + i % 3);
            C.due("3: cell", x.boatOf(i, 3), 1 + i);
        }
        C.due("3: an eleventh", x.boat(0, 1, 20), TideBoats.FULL);
        C.due("3: an eleventh where one is", x.boat(0, 1, 10), TideBoats.NOT_POSSIBLE);
        C.due("3: an eleventh in a harbour", x.boat(0, 1, 0), TideBoats.NOT_POSSIBLE);
        C.due("3: an eleventh of draft 4", x.boat(0, 4, 20), TideBoats.BAD_VALUE);
        C.due("3: boats", x.count(5), 10);
        for (int wrong : OUTSIDE) {
            C.due("3: player", x.boat(wrong, 0, 20), TideBoats.UNKNOWN);
            C.due("3: cell", x.boat(0, 0, wrong), TideBoats.UNKNOWN);
            C.due("3: draft", x.boat(0, wrong, 35), TideBoats.BAD_VALUE);
        }
        C.due("3: player 2", x.boat(2, 1, 20), TideBoats.UNKNOWN);
        C.due("3: cell 36", x.boat(1, 1, 36), TideBoats.UNKNOWN);
        C.due("3: draft 0", x.boat(1, 0, 20), TideBoats.BAD_VALUE);
        x.pause();
        C.due("3: in the turn 1", x.boat(0, 1, 20), TideBoats.NOT_POSSIBLE);
        TideBoats y = new TideBoats();
        C.due("3: harbour", y.boat(1, 1, 35), TideBoats.NOT_POSSIBLE);
        C.due("3: own harbour", y.boat(1, 1, 0), TideBoats.NOT_POSSIBLE);
        y.boat(1, 1, 5);
        y.undo();
        C.due("3: again", y.boat(0, 2, 5), 0);
        C.due("3: an act", y.count(13), 1);
    }

    private static void set() {
        int[] first = {1, 3, 1, 60};
        int[] low = {0, 1, 1, 10};
        int[] high = {3, 4, 3, 99};
        for (int which = 0; which < 4; which++) {
            TideBoats x = new TideBoats();
            C.due("4: so already", x.set(which, first[which]), TideBoats.NONE);
            C.due("4: too low", x.set(which, low[which] - 1), TideBoats.BAD_VALUE);
            C.due("4: too high", x.set(which, high[which] + 1), TideBoats.BAD_VALUE);
            C.due("4: no act", x.count(13), 0);
            C.due("4: highest", x.set(which, high[which]), first[which]);
            C.due("4: told", x.count(15 + which), high[which]);
            int again = low[which] == high[which] ? TideBoats.NONE : high[which];
            C.due("4: lowest", x.set(which, low[which]), again);
            C.due("4: told", x.count(15 + which), low[which]);
            for (int other = 0; other < 4; other++) {
                C.due("4: the others", x.count(15 + other), other == which ? low[other] : first[other]);
            }
            C.due("4: acts", x.count(13), 2);
            x.boat(0, 1, 1);
            x.pause();
            C.due("4: in the turn 1", x.set(which, high[which]), TideBoats.NOT_POSSIBLE);
            C.due("4: in the turn 1, so already", x.set(which, low[which]), TideBoats.NOT_POSSIBLE);
            C.due("4: in the turn 1, too high", x.set(which, high[which] + 1), TideBoats.BAD_VALUE);
        }
        TideBoats x = new TideBoats();
        C.due("4: which 4", x.set(4, 1), TideBoats.BAD_VALUE);
        C.due("4: which 4, 0", x.set(4, 0), TideBoats.BAD_VALUE);
        C.due("4: which -1, 0", x.set(-1, 0), TideBoats.BAD_VALUE);
        for (int wrong : OUTSIDE) {
            C.due("4: which", x.set(wrong, 1), TideBoats.BAD_VALUE);
            C.due("4: value", x.set(1, wrong), TideBoats.BAD_VALUE);
        }
    }

    private static void moveGoes() {
        int[] goals = {15 + 2, 15 + 12, 15 - 2, 15 - 12};
        for (int direction = 0; direction < 4; direction++) {
            TideBoats x = deep();
            x.boat(0, 3, 15);
            C.due("5: move", x.move(0, direction, 2), 0);
            C.due("5: cell", x.boatOf(0, 3), goals[direction]);
            C.due("5: boat there", x.cellOf(goals[direction], 3), 0);
            C.due("5: where it was", x.cellOf(15, 3), TideBoats.NONE);
            C.due("5: turn", x.count(0), 1);
            C.due("5: steps", x.boatOf(0, 5), 2);
            C.due("5: undo", x.undo(), 3);
            C.due("5: cell again", x.boatOf(0, 3), 15);
        }
        TideBoats x = deep();
        x.boat(0, 1, 6);
        x.boat(1, 1, 11);
        C.due("5: boat 2", x.move(2, 0, 1), TideBoats.UNKNOWN);
        C.due("5: boat 2 with all wrong", x.move(2, 4, 4), TideBoats.UNKNOWN);
        for (int wrong : OUTSIDE) {
            C.due("5: boat", x.move(wrong, 0, 1), TideBoats.UNKNOWN);
            C.due("5: direction", x.move(0, wrong, 1), TideBoats.BAD_VALUE);
            C.due("5: steps", x.move(1, 0, wrong), TideBoats.BAD_VALUE);
        }
        C.due("5: direction 4", x.move(1, 4, 1), TideBoats.BAD_VALUE);
        C.due("5: steps 0", x.move(1, 0, 0), TideBoats.BAD_VALUE);
        C.due("5: steps 4", x.move(0, 0, 4), TideBoats.BAD_VALUE);
        C.due("5: 3 steps", x.move(0, RIGHT, 3), 0);
        C.due("5: the other one", x.move(1, LEFT, 1), 0);
        C.due("5: steps in all", x.move(0, DOWN, 2), 0);
        C.due("5: steps in all", x.boatOf(0, 5), 5);
    }

    private static void moveReasons() {
        TideBoats x = new TideBoats();
        x.boat(0, 1, 4);
        x.boat(1, 1, 10);
        x.boat(0, 1, 34);
        x.sand(4, 0, false);
        x.sand(5, 0, false);
        C.due("5: aground", x.move(2, RIGHT, 1), -14);
        C.due("5: the other player's", x.move(1, RIGHT, 1), -13);
        C.due("5: off the board", x.move(0, UP, 1), -15);
        C.due("5: no water in the second cell", x.move(0, LEFT, 2), -15);
        C.due("5: no boat moved", x.count(0), 0);
        C.due("5: no act", x.count(13), 4);
        C.due("5: where there is water", x.move(0, RIGHT, 1), 0);
    }

    private static void moveRams() {
        TideBoats x = new TideBoats();
        x.sand(8, 0, false);
        x.sand(9, 0, false);
        x.boat(0, 1, 8);
        x.boat(1, 2, 9);
        x.boat(1, 1, 10);
        C.due("5: rammed by one step", x.why(0, RIGHT, 1), 0);
        C.due("5: not passed over", x.why(0, RIGHT, 2), 5);
        C.due("5: rammed", x.move(0, RIGHT, 1), 2);
        C.due("5: wrecked", x.boatOf(1, 2), 2);
        C.due("5: its cell", x.boatOf(1, 3), TideBoats.NONE);
        C.due("5: in its place", x.cellOf(9, 3), 0);
        C.due("5: rammed so far", x.count(10), 1);
        C.due("5: wrecked", x.count(8), 1);
        C.due("5: wrecked, moved", x.move(1, RIGHT, 1), -12);
        x.undo();
        C.due("5: not rammed", x.count(10), 0);
        C.due("5: not wrecked", x.boatOf(1, 2), 0);

        TideBoats y = deep();
        y.set(0, 1);
        y.boat(0, 1, 12);
        y.boat(0, 2, 14);
        y.boat(1, 1, 24);
        y.boat(1, 3, 6 + 2);
        y.boat(1, 3, 2);
        C.due("5: its own player's aground", y.move(0, RIGHT, 2), -16);
        C.due("5: past it", y.move(0, RIGHT, 3), -16);
        C.due("5: the other's afloat", y.move(0, DOWN, 2), -16);
        C.due("5: a boat aground", y.move(1, UP, 1), -14);
        y.boat(0, 1, 7);
        C.due("5: the other's aground, last", y.why(5, RIGHT, 1), 0);
        C.due("5: the other's aground, not last", y.why(5, RIGHT, 2), 6);
    }

    private static void moveHome() {
        TideBoats x = deep();
        x.boat(0, 3, 29);
        x.boat(1, 2, 2);
        x.boat(0, 2, 33);
        x.boat(0, 1, 3);
        C.due("5: past its harbour", x.move(2, RIGHT, 3), -15);
        C.due("5: home by one step", x.move(0, DOWN, 1), 0);
        C.due("5: home", x.boatOf(0, 2), 1);
        C.due("5: not in the cell", x.cellOf(35, 3), TideBoats.NONE);
        C.due("5: score", x.count(3), 3);
        C.due("5: the player 1 home", x.move(1, LEFT, 2), 0);
        C.due("5: its score", x.count(4), 2);
        C.due("5: a second one by two steps", x.move(2, RIGHT, 2), 0);
        C.due("5: the scores together", x.count(3), 5);
        C.due("5: at home", x.move(2, LEFT, 1), -12);
        x.pause();
        C.due("5: the other harbour", x.move(3, LEFT, 3), -15);
        C.due("5: near the other harbour", x.move(3, LEFT, 2), 0);

        TideBoats y = new TideBoats();
        y.sand(34, 0, false);
        y.set(0, 0);
        y.boat(0, 1, 34);
        C.due("5: no water in the harbour", y.why(0, RIGHT, 1), 4);
        pauses(y, 2);
        C.due("5: home as the water is there", y.move(0, RIGHT, 1), 0);
        C.due("5: over then", y.count(11), 1);
    }

    private static void moveWrecks() {
        TideBoats x = reef();
        x.boat(1, 1, 13);
        x.boat(0, 1, 14);
        x.boat(1, 1, 21);
        C.due("5: aground on a rock at first", x.boatOf(1, 4), 0);
        C.due("5: it stays", x.pause(), 2);
        C.due("5: floats on it", x.boatOf(1, 4), 1);
        C.due("5: the other goes", x.move(2, DOWN, 1), 0);
        C.due("5: wrecked as the water falls", x.boatOf(1, 2), 2);
        C.due("5: not rammed", x.count(10), 0);
        C.due("5: aground on sand", x.boatOf(0, 2), 0);

        TideBoats y = reef();
        y.boat(1, 1, 13);
        y.boat(0, 1, 20);
        y.pause();
        C.due("5: onto the rock", y.move(0, RIGHT, 1), 0);
        C.due("5: wrecked behind its move", y.boatOf(0, 2), 2);
        C.due("5: its steps", y.boatOf(0, 5), 1);
        y.undo();
        C.due("5: over the rock", y.move(0, RIGHT, 2), 0);
        C.due("5: on a rock with water over it", y.boatOf(0, 2), 0);
    }

    private static void pause() {
        TideBoats x = new TideBoats();
        C.due("6: without a boat", x.pause(), TideBoats.NOT_POSSIBLE);
        C.due("6: the turn", x.count(0), 0);
        C.due("6: no act", x.count(13), 0);
        x.set(3, 10);
        x.boat(1, 1, 1);
        int[] tides = {2, 3, 4, 3, 2, 1, 2, 3, 4, 3, 2};
        for (int turn = 0; turn < tides.length; turn++) {
            C.due("6: over in " + turn, x.count(11), 0);
            C.due("6: whose turn", x.count(1), turn % 2);
            C.due("6: tide", x.pause(), tides[turn]);
        }
        C.due("6: over", x.pause(), TideBoats.NOT_POSSIBLE);
        C.due("6: turn", x.count(0), 11);
        C.due("6: undone", x.undo(), 3);
        C.due("6: again", x.pause(), 2);

        TideBoats y = reef();
        y.boat(0, 1, 14);
        y.pause();
        C.due("6: wrecked", y.pause(), 1);
        C.due("6: no boat on the board", y.pause(), TideBoats.NOT_POSSIBLE);
    }

    private static void type() {
        TideBoats x = new TideBoats();
        for (int length = 1; length <= 60; length++) {
            C.due("7: length", x.type(length == 60 ? 'w' : length % 2 == 0 ? ';' : 'w'), length);
        }
        C.due("7: full", x.type('w'), TideBoats.FULL);
        C.due("7: length told", x.count(14), 60);
        C.due("7: fault", x.fault(), 59);
        C.due("7: no act", x.count(13), 0);
        x.clearText();
        char[] odd = {0, 10, 32, 127, 128, 255, 256, 8226, 0xD800, 0xFFFF};
        for (char sign : odd) {
            C.due("7: any character", x.type(sign), 1);
            C.due("7: not allowed", x.fault(), 0);
            C.due("7: no orders", x.doAll(), -100);
            x.clearText();
        }
    }

    private static void clearText() {
        TideBoats x = new TideBoats();
        C.due("8: empty", x.clearText(), 0);
        write(x, "w;w");
        C.due("8: length", x.clearText(), 3);
        C.due("8: empty then", x.count(14), 0);
        C.due("8: fault", x.fault(), 0);
        C.due("8: first character", x.type('w'), 1);
        C.due("8: nothing else", x.fault(), TideBoats.NONE);
    }

    private static void faultOf(String text, int due) {
        TideBoats x = new TideBoats();
        write(x, text);
        C.due("9: fault of '" + text + "'", x.fault(), due);
        if (due != TideBoats.NONE) {
            C.due("10: doAll of '" + text + "'", x.doAll(), -100 - due);
        }
    }

    private static void faults() {
        String[] whole = {"w", "a1=0", "f6=4", "a1=0*", "+01a1", "+13f6", "0r1", "9u3", "5d2", "5l2", "w;w;w",
            "a2=3*;+12b3;1d1;w", "a2=3;w"};
        for (String text : whole) {
            faultOf(text, TideBoats.NONE);
            faultOf(text + ";", text.length() + 1);
            faultOf(text + "x", text.length());
            faultOf(text + ";;", text.length() + 1);
            faultOf(text + " ", text.length());
            faultOf(";" + text, 0);
        }
        String[] starts = {"", "a", "a1", "a1=", "+", "+0", "+01", "+01a", "0", "0r", "w;", "a1=0;", "a1=0*;"};
        for (String text : starts) {
            faultOf(text, text.length());
            faultOf(text + "-", text.length());
        }
        faultOf("g1=0", 0);
        faultOf("A1=0", 0);
        faultOf("a0=0", 1);
        faultOf("a7=0", 1);
        faultOf("a1-0", 2);
        faultOf("a1=5", 3);
        faultOf("a1=0**", 5);
        faultOf("+21a1", 1);
        faultOf("+00a1", 2);
        faultOf("+04a1", 2);
        faultOf("+01g1", 3);
        faultOf("+01a7", 4);
        faultOf("+01a1*", 5);
        faultOf("0x1", 1);
        faultOf("0r0", 2);
        faultOf("0r4", 2);
        faultOf("0r1*", 3);
        faultOf("w*", 1);
        faultOf("r", 0);
    }

    private static void doAll() {
        TideBoats x = new TideBoats();
        write(x, "b2=0*;+01b2;+12c2;b2=0*");
        C.due("10: orders", x.doAll(), 4);
        C.due("10: height", x.cellOf(7, 0), 0);
        C.due("10: rock", x.cellOf(7, 1), 1);
        C.due("10: boat", x.cellOf(7, 3), 0);
        C.due("10: draft", x.boatOf(1, 1), 2);
        C.due("10: player", x.boatOf(1, 0), 1);
        C.due("10: cell", x.boatOf(1, 3), 8);
        C.due("10: the text stays", x.count(14), 23);
        C.due("10: one act", x.count(13), 1);
        write(x, "b2=0");
        C.due("10: without a rock", x.doAll(), 1);
        C.due("10: no rock then", x.cellOf(7, 1), 0);
        C.due("10: nothing done, an act", x.doAll(), 1);
        C.due("10: acts", x.count(13), 3);
        write(x, "w;w;0r2;w;0u1");
        C.due("10: in the way", x.doAll(), -16);
        write(x, "w;w;0d2;w;0l1;w;w;0u1;w;0r1");
        C.due("10: in the other player's turn", x.doAll(), -13);
        write(x, "w;w;0d2;w;0l1;w;w;w;0u1;w;0r1");
        C.due("10: moves", x.doAll(), 11);
        C.due("10: the turn", x.count(0), 11);
        C.due("10: where it is", x.boatOf(0, 3), 6 * 2 + 1);
        C.due("10: steps", x.boatOf(0, 5), 5);
        C.due("10: undo", x.undo(), 3);
        C.due("10: where it was", x.boatOf(0, 3), 7);
    }

    private static void doAllErrors() {
        TideBoats x = new TideBoats();
        x.boat(0, 1, 1);
        String[] texts = {"b2=4;a1=0", "b2=4;f6=0*", "b2=4;+01b1", "b2=4;+01f6", "b2=4;1r1", "b2=4;0r1", "w;b2=4", "w;+01c1",
            "b2=4;9u3"};
        int[] errors = {-4, -4, -4, -4, -1, -14, -4, -4, -1};
        for (int i = 0; i < texts.length; i++) {
            write(x, texts[i]);
            C.due("10: doAll of '" + texts[i] + "'", x.doAll(), errors[i]);
            C.due("10: nothing done", x.cellOf(7, 0), 1);
            C.due("10: the turn", x.count(0), 0);
            C.due("10: no act", x.count(13), 1);
        }
        write(x, "+01a2;+01a3;+01a4;+01a5;+01a6;+01b2;+01b3;+01b4;+01b5");
        C.due("10: ten boats", x.doAll(), 9);
        write(x, "+01b6");
        C.due("10: an eleventh", x.doAll(), TideBoats.FULL);
        TideBoats y = new TideBoats();
        write(y, "w");
        C.due("10: a game that is over", y.doAll(), TideBoats.NOT_POSSIBLE);
        write(y, "+01a2;w;w;w;w;w;w;w;w;w;w;w");
        y.set(3, 10);
        C.due("10: up to the end", y.doAll(), 12);
        C.due("10: over", y.count(11), 1);
        y.undo();
        y.type(';');
        y.type('w');
        C.due("10: beyond the end", y.doAll(), TideBoats.NOT_POSSIBLE);
        C.due("10: as it was", y.count(5), 0);
    }

    private static void undo() {
        TideBoats x = new TideBoats();
        C.due("11: empty", x.undo(), TideBoats.NONE);
        for (int height = 2; height <= 4; height++) {
            x.sand(1, height, false);
        }
        C.due("11: states", x.count(13), 3);
        x.sand(1, 3, true);
        x.sand(1, 2, true);
        C.due("11: four at most", x.count(13), 4);
        C.due("11: last", x.undo(), 3);
        C.due("11: height", x.cellOf(1, 0), 3);
        C.due("11: rock", x.cellOf(1, 1), 1);
        C.due("11: one more", x.undo(), 2);
        C.due("11: no rock", x.cellOf(1, 1), 0);
        C.due("11: no error recorded", x.sand(99, 0, false), TideBoats.UNKNOWN);
        C.due("11: one more", x.undo(), 1);
        C.due("11: one more", x.undo(), 0);
        C.due("11: the oldest is dropped", x.cellOf(1, 0), 2);
        C.due("11: empty", x.undo(), TideBoats.NONE);
        C.due("11: as it was", x.cellOf(1, 0), 2);
        write(x, "+01b1");
        x.doAll();
        x.set(0, 3);
        C.due("11: setting", x.undo(), 1);
        C.due("11: setting again", x.count(15), 1);
        C.due("11: boat", x.undo(), 0);
        C.due("11: no boat", x.count(5), 0);
        C.due("11: the text stays", x.count(14), 5);
    }

    private static void keepAndRestore() {
        TideBoats x = new TideBoats();
        C.due("13: none", x.restore(), TideBoats.NONE);
        x.boat(0, 1, 1);
        C.due("12: turn", x.keep(), 0);
        C.due("12: no act", x.count(13), 1);
        x.type('w');
        pauses(x, 3);
        C.due("13: turn", x.restore(), 0);
        C.due("13: turn told", x.count(0), 0);
        C.due("13: an act", x.count(13), 4);
        C.due("13: the text stays", x.count(14), 1);
        C.due("13: undone", x.undo(), 3);
        C.due("13: turn before", x.count(0), 3);
        C.due("12: in place of the one", x.keep(), 3);
        x.pause();
        C.due("13: the new one", x.restore(), 3);
        x.pause();
        C.due("13: it stays", x.restore(), 3);
        C.due("13: as it is", x.restore(), 3);
        C.due("13: an act too", x.count(13), 4);
        x.undo();
        x.undo();
        x.undo();
        x.undo();
        C.due("13: not undone by undo", x.restore(), 3);
        TideBoats y = new TideBoats();
        y.keep();
        y.boat(0, 1, 1);
        y.sand(5, 4, true);
        y.set(3, 99);
        C.due("13: all", y.restore(), 0);
        C.due("13: no boat", y.count(5), 0);
        C.due("13: sand", y.cellOf(5, 0), 1);
        C.due("13: setting", y.count(18), 60);
        y.sand(5, 2, false);
        C.due("13: again", y.restore(), 0);
        C.due("13: the snapshot is its own", y.cellOf(5, 0), 1);
    }

    private static void restoreOtherBoats() {
        TideBoats x = deep();
        x.boat(1, 2, 14);
        x.pause();
        x.move(0, LEFT, 2);
        x.keep();
        x.undo();
        x.undo();
        x.undo();
        C.due("13: another boat", x.boat(0, 3, 20), 0);
        C.due("13: its player", x.boatOf(0, 0), 0);
        C.due("13: its steps", x.boatOf(0, 5), 0);
        C.due("13: turn", x.restore(), 2);
        int[] due = {1, 2, 0, 12, 1, 2};
        for (int what = 0; what < due.length; what++) {
            C.due("13: the boat of the snapshot, " + what, x.boatOf(0, what), due[what]);
        }
        x.undo();
        int[] other = {0, 3, 0, 20, 1, 0};
        for (int what = 0; what < other.length; what++) {
            C.due("11: the boat from before, " + what, x.boatOf(0, what), other[what]);
        }
    }

    /** What homeIn tells is of the board as it is now, not as it was when it was asked before. */
    private static void homeInAgain() {
        TideBoats x = new TideBoats();
        x.boat(0, 1, 29);
        bothHome("21: flat", x, 0, 3);
        x.sand(29, 0, true);
        bothHome("21: deeper", x, 0, 1);
        x.sand(29, 4, true);
        bothHome("21: higher", x, 0, TideBoats.NONE);
        x.undo();
        bothHome("21: deeper again", x, 0, 1);
    }

    private static void cellOf() {
        TideBoats x = new TideBoats();
        x.sand(3, 4, true);
        x.boat(0, 1, 3);
        C.due("14: height", x.cellOf(3, 0), 4);
        C.due("14: rock", x.cellOf(3, 1), 1);
        C.due("14: no water below 0", x.cellOf(3, 2), 0);
        C.due("14: boat", x.cellOf(3, 3), 0);
        C.due("14: harbour's water", x.cellOf(35, 2), 1);
        C.due("14: no boat", x.cellOf(4, 3), TideBoats.NONE);
        pauses(x, 3);
        C.due("14: water", x.cellOf(4, 2), 3);
        C.due("14: water on the high sand", x.cellOf(3, 2), 0);
        for (int wrong : OUTSIDE) {
            C.due("14: cell", x.cellOf(wrong, 9), TideBoats.UNKNOWN);
            C.due("14: what", x.cellOf(3, wrong), TideBoats.BAD_VALUE);
        }
        C.due("14: cell 36", x.cellOf(36, 0), TideBoats.UNKNOWN);
        C.due("14: what 4", x.cellOf(0, 4), TideBoats.BAD_VALUE);
    }

    private static void boatOf() {
        TideBoats x = deep();
        x.boat(1, 3, 14);
        x.boat(0, 1, 34);
        int[] due = {1, 3, 0, 14, 1, 0, 10};
        for (int what = 0; what < due.length; what++) {
            C.due("15: " + what, x.boatOf(0, what), due[what]);
        }
        C.due("15: moves by the harbour", x.boatOf(1, 6), 7);
        x.move(1, RIGHT, 1);
        int[] home = {0, 1, 1, TideBoats.NONE, 0, 1, 0};
        for (int what = 0; what < home.length; what++) {
            C.due("15: home, " + what, x.boatOf(1, what), home[what]);
        }
        for (int wrong : OUTSIDE) {
            C.due("15: boat", x.boatOf(wrong, 9), TideBoats.UNKNOWN);
            C.due("15: what", x.boatOf(0, wrong), TideBoats.BAD_VALUE);
        }
        C.due("15: boat 2", x.boatOf(2, 0), TideBoats.UNKNOWN);
        C.due("15: what 7", x.boatOf(1, 7), TideBoats.BAD_VALUE);
        C.due("15: no boats", new TideBoats().boatOf(0, 0), TideBoats.UNKNOWN);
        TideBoats y = deep();
        y.set(3, 10);
        y.boat(0, 3, 14);
        pauses(y, 10);
        C.due("15: in the last turn", y.boatOf(0, 6), 10);
        y.pause();
        C.due("15: no moves in a game that is over", y.boatOf(0, 6), 0);
        C.due("15: it floats", y.boatOf(0, 4), 1);
    }

    private static void tide() {
        tides(1, 3, 1, new int[] {1, 2, 3, 4, 3, 2});
        tides(3, 4, 2, new int[] {3, 3, 4, 4, 5, 5, 6, 6, 7, 7, 6, 6, 5, 5, 4, 4});
        tides(0, 1, 3, new int[] {0, 0, 0, 1, 1, 1});
        TideBoats x = new TideBoats();
        C.due("16: 1001", x.tide(1001), TideBoats.UNKNOWN);
        for (int wrong : OUTSIDE) {
            C.due("16: turn", x.tide(wrong), TideBoats.UNKNOWN);
        }
    }

    private static void tides(int low, int rise, int span, int[] due) {
        TideBoats x = new TideBoats();
        for (int turn = 0; turn <= 1000; turn++) {
            // No object is asked more often than 512 times.
            if (turn % 500 == 0) {
                x = new TideBoats();
                x.set(0, low);
                x.set(1, rise);
                x.set(2, span);
            }
            C.due("16: tide " + turn + " of " + rise + " steps", x.tide(turn), due[turn % due.length]);
        }
    }

    private static void why() {
        TideBoats x = deep();
        x.set(3, 10);
        x.boat(0, 3, 14);
        x.boat(1, 1, 20);
        x.boat(0, 1, 7);
        C.due("17: can", x.why(0, LEFT, 2), 0);
        C.due("17: the other player's turn", x.why(1, RIGHT, 3), 3);
        C.due("17: off the board", x.why(0, UP, 3), 5);
        C.due("17: the way ahead of the boat", x.why(0, DOWN, 3), 6);
        C.due("17: no boat in the way", x.why(0, RIGHT, 3), 0);
        C.due("17: beside the other harbour", x.why(2, UP, 1), 0);
        C.due("17: steps off the board past a boat", x.why(2, LEFT, 2), 5);
        C.due("17: boat 3", x.why(3, 9, 9), TideBoats.UNKNOWN);
        C.due("17: direction 4", x.why(1, 4, 1), TideBoats.BAD_VALUE);
        for (int wrong : OUTSIDE) {
            C.due("17: boat", x.why(wrong, 0, 1), TideBoats.UNKNOWN);
            C.due("17: direction", x.why(0, wrong, 1), TideBoats.BAD_VALUE);
            C.due("17: steps", x.why(0, 0, wrong), TideBoats.BAD_VALUE);
        }
        C.due("17: steps 0", x.why(0, 0, 0), TideBoats.BAD_VALUE);
        C.due("17: steps 4", x.why(0, 0, 4), TideBoats.BAD_VALUE);
        pauses(x, 11);
        C.due("17: over", x.why(1, UP, 3), 1);
        C.due("17: over, other player's", x.why(0, UP, 1), 1);
        C.due("17: over, wrong", x.why(0, UP, 4), TideBoats.BAD_VALUE);

        TideBoats y = deep();
        y.boat(0, 1, 34);
        y.boat(1, 1, 33);
        y.move(0, RIGHT, 1);
        C.due("17: home ahead of whose turn", y.why(0, LEFT, 1), 2);
        y.undo();
        C.due("17: a boat ahead of the edge", y.why(0, LEFT, 3), 6);
        C.due("17: no boats", new TideBoats().why(0, 0, 1), TideBoats.UNKNOWN);
        TideBoats z = new TideBoats();
        z.boat(0, 1, 6);
        z.boat(1, 1, 7);
        C.due("17: aground ahead of off the board", z.why(0, LEFT, 1), 4);
        C.due("17: other turn ahead of aground", z.why(1, LEFT, 1), 3);
        pauses(z, 2);
        C.due("17: off the board behind a boat", z.why(0, LEFT, 1), 5);
    }

    private static void count() {
        TideBoats x = deep();
        x.set(0, 1);
        x.boat(0, 1, 34);
        x.boat(0, 2, 14);
        x.boat(1, 1, 15);
        x.boat(1, 3, 33);
        x.type('q');
        int[] first = {0, 0, 1, 0, 0, 4, 4, 0, 0, 2, 0, 0, 5, 4, 1, 1, 3, 1, 60};
        for (int what = 0; what < first.length; what++) {
            C.due("18: " + what, x.count(what), first[what]);
        }
        x.move(0, LEFT, 1);
        C.due("18: the turn", x.count(0), 1);
        C.due("18: one rammed", x.count(10), 1);
        C.due("18: wrecked", x.count(8), 1);
        C.due("18: on the board", x.count(6), 3);
        C.due("18: home", x.count(7), 0);
        C.due("18: tide", x.count(2), 2);
        C.due("18: whose turn", x.count(1), 1);
        C.due("18: moves of the player 1", x.count(12), x.boatOf(2, 6));
        C.due("18: aground", x.count(9), 0);
        C.due("18: 19", x.count(19), TideBoats.BAD_VALUE);
        for (int wrong : OUTSIDE) {
            C.due("18: what", x.count(wrong), TideBoats.BAD_VALUE);
        }
        C.due("18: not over", x.count(11), 0);
    }

    private static void afloat() {
        TideBoats x = new TideBoats();
        C.dueFloat("19: harbour", x.afloat(0, 1), 1.0f);
        C.dueFloat("19: 2 in the harbour", x.afloat(35, 2), (float) 5 / (float) 6);
        C.dueFloat("19: 3 on sand", x.afloat(7, 3), (float) 1 / (float) 6);
        x.sand(7, 4, true);
        C.dueFloat("19: never", x.afloat(7, 1), 0.0f);
        x.set(2, 3);
        C.dueFloat("19: slow tide", x.afloat(8, 2), (float) 9 / (float) 18);
        C.dueFloat("19: cell 36", x.afloat(36, 1), -1.0f);
        C.dueFloat("19: draft 0", x.afloat(1, 0), -1.0f);
        C.dueFloat("19: draft 4", x.afloat(1, 4), -1.0f);
        for (int wrong : OUTSIDE) {
            C.dueFloat("19: cell", x.afloat(wrong, 1), -1.0f);
            C.dueFloat("19: draft", x.afloat(1, wrong), -1.0f);
        }
        x.boat(0, 1, 1);
        x.pause();
        C.dueFloat("19: from the turn 0 on", x.afloat(8, 2), 0.5f);
    }

    private static void floatsIn() {
        TideBoats x = new TideBoats();
        x.boat(0, 1, 1);
        x.boat(1, 3, 2);
        x.boat(1, 3, 3);
        x.sand(3, 2, true);
        C.due("20: draft 1", x.floatsIn(0), 1);
        C.due("20: draft 3", x.floatsIn(1), 3);
        C.due("20: never", x.floatsIn(2), TideBoats.NONE);
        pauses(x, 4);
        C.due("20: now", x.floatsIn(0), 0);
        C.due("20: the next tide", x.floatsIn(1), 5);
        C.due("20: boat 3", x.floatsIn(3), TideBoats.UNKNOWN);
        for (int wrong : OUTSIDE) {
            C.due("20: boat", x.floatsIn(wrong), TideBoats.UNKNOWN);
        }
        TideBoats y = deep();
        y.boat(0, 1, 34);
        y.move(0, RIGHT, 1);
        C.due("20: home", y.floatsIn(0), TideBoats.NOT_POSSIBLE);
        TideBoats z = new TideBoats();
        z.set(3, 10);
        z.set(1, 4);
        z.set(2, 3);
        z.boat(0, 3, 1);
        z.sand(1, 2, true);
        pauses(z, 3);
        C.due("20: beyond the last turn", z.floatsIn(0), 9);
        pauses(z, 8);
        C.due("20: in a game that is over", z.floatsIn(0), 1);
        z.undo();
        C.due("20: a turn ahead", z.floatsIn(0), 2);
        TideBoats w = new TideBoats();
        w.set(1, 4);
        w.set(2, 3);
        w.sand(1, 4, false);
        w.boat(0, 1, 1);
        pauses(w, 15);
        C.due("20: the longest way round", w.floatsIn(0), 12 + 9);
    }

    private static void bothHome(String what, TideBoats x, int boat, int due) {
        C.due(what + ", forwards", x.homeIn(boat, 0), due);
        C.due(what + ", backwards", x.homeIn(boat, 1), due);
    }

    private static void homeIn() {
        TideBoats x = deep();
        x.boat(0, 3, 34);
        x.boat(0, 3, 30);
        x.boat(0, 3, 1);
        x.boat(1, 3, 6);
        x.boat(1, 1, 33);
        bothHome("21: one step", x, 0, 1);
        bothHome("21: five steps, boats not counted", x, 1, 3);
        bothHome("21: round the corner", x, 2, 7);
        bothHome("21: the other player's", x, 3, 2);
        bothHome("21: far", x, 4, 6);
        C.due("21: boat 5", x.homeIn(5, 9), TideBoats.UNKNOWN);
        for (int wrong : OUTSIDE) {
            C.due("21: boat", x.homeIn(wrong, 0), TideBoats.UNKNOWN);
            C.due("21: way", x.homeIn(0, wrong), TideBoats.BAD_VALUE);
        }
        C.due("21: way 2", x.homeIn(0, 2), TideBoats.BAD_VALUE);
        x.move(0, RIGHT, 1);
        bothHome("21: home already", x, 0, TideBoats.NOT_POSSIBLE);
        C.due("21: way ahead of it", x.homeIn(0, 2), TideBoats.BAD_VALUE);
        bothHome("21: in the other's turn", x, 1, 4);
        bothHome("21: in its turn", x, 3, 1);

        TideBoats y = flat(4);
        y.sand(34, 0, false);
        y.boat(0, 2, 34);
        y.boat(1, 1, 20);
        bothHome("21: it waits for the water", y, 0, 3);
        bothHome("21: never afloat", y, 1, TideBoats.NONE);
    }

    /** One way home, of which the last cell but one is a rock with water only in some turns. */
    private static void homeInOnRocks() {
        TideBoats x = flat(4);
        x.set(0, 0);
        x.set(1, 4);
        x.sand(34, 3, true);
        x.sand(33, 0, false);
        x.boat(0, 1, 33);
        bothHome("21: over the rock in one move", x, 0, 5);
        x.sand(33, 3, false);
        x.sand(32, 3, false);
        x.sand(31, 3, true);
        x.boat(0, 1, 31);
        bothHome("21: four cells, wrecked on any rock", x, 1, 4 + 8 + 1);
        x.sand(32, 3, true);
        x.sand(33, 3, true);
        bothHome("21: rocks alone", x, 1, TideBoats.NONE);
        bothHome("21: three of them in one move", x, 0, 5);
    }

    private static void homeInAtTheEnd() {
        TideBoats x = deep();
        x.set(3, 10);
        x.boat(0, 1, 34);
        x.boat(1, 1, 1);
        x.boat(0, 1, 30);
        pauses(x, 8);
        bothHome("21: two moves up to the last turn", x, 2, 3);
        x.pause();
        bothHome("21: two moves, too late", x, 2, TideBoats.NONE);
        bothHome("21: the last turn but one", x, 1, 1);
        x.pause();
        bothHome("21: in the last turn", x, 0, 1);
        bothHome("21: not its turn", x, 1, TideBoats.NONE);
        x.pause();
        bothHome("21: over", x, 0, TideBoats.NONE);
        C.due("21: way in a game that is over", x.homeIn(0, -1), TideBoats.BAD_VALUE);
    }

    private static void inDanger() {
        TideBoats x = reef();
        x.sand(20, 1, true);
        x.sand(26, 0, true);
        x.boat(0, 1, 14);
        x.boat(1, 1, 20);
        x.boat(0, 1, 21);
        x.boat(1, 2, 26);
        x.boat(0, 2, 15);
        C.due("22: water rises", x.inDanger(0), 0);
        C.due("22: water rises", x.inDanger(1), 0);
        x.pause();
        C.due("22: water falls", x.inDanger(0), 1 + 16);
        C.due("22: the other player", x.inDanger(1), 2 + 8);
        C.due("22: player 2", x.inDanger(2), TideBoats.UNKNOWN);
        for (int wrong : OUTSIDE) {
            C.due("22: player", x.inDanger(wrong), TideBoats.UNKNOWN);
        }
        x.pause();
        C.due("22: wrecked already", x.inDanger(0), 0);
        C.due("22: so many wrecked", x.count(8), 4);
        C.due("22: no boat yet", new TideBoats().inDanger(1), 0);
        C.due("22: no boat yet, player 2", new TideBoats().inDanger(2), TideBoats.UNKNOWN);

        TideBoats y = new TideBoats();
        y.sand(14, 1, true);
        y.boat(0, 3, 14);
        y.boat(0, 3, 15);
        pauses(y, 2);
        C.due("22: aground on the rock", y.inDanger(0), 0);
        y.pause();
        C.due("22: the last turn of its water", y.inDanger(0), 1);

        for (int last = 10; last <= 11; last++) {
            TideBoats z = new TideBoats();
            z.set(2, 3);
            z.set(3, last);
            z.sand(14, 3, true);
            z.boat(0, 1, 14);
            pauses(z, 11);
            C.due("22: over", z.count(11), last == 10 ? 1 : 0);
            C.due("22: in a game that is over none", z.inDanger(0), last == 10 ? 0 : 1);
        }
    }

    private static void best() {
        TideBoats x = deep();
        C.due("23: no boat", x.best(), TideBoats.NOT_POSSIBLE);
        x.set(0, 1);
        x.boat(0, 1, 34);
        C.due("23: home", x.best(), 1);
        x.boat(0, 1, 29);
        C.due("23: the lowest of two home", x.best(), 1);
        x.undo();
        x.undo();
        x.set(0, 2);
        x.boat(0, 1, 34);
        x.boat(0, 2, 29);
        C.due("23: the greatest draft home", x.best(), 111);
        x.boat(1, 3, 14);
        x.boat(0, 1, 13);
        C.due("23: home ahead of rammed", x.best(), 111);
        pauses(x, 1);
        C.due("23: the other player's, round the boat in the way", x.best(), 232);

        TideBoats y = deep();
        y.set(0, 1);
        y.boat(0, 1, 14);
        y.boat(1, 2, 15);
        y.boat(1, 3, 20);
        y.boat(0, 1, 13 + 6);
        y.boat(1, 3, 18);
        C.due("23: the greatest draft rammed, by the lowest boat", y.best(), 11);
        y.move(0, DOWN, 1);
        y.pause();
        C.due("23: rammed ones are gone", y.count(10), 1);

        TideBoats z = new TideBoats();
        z.boat(0, 1, 14);
        C.due("23: no move", z.best(), TideBoats.NONE);
        z.pause();
        C.due("23: no boat of the player", z.best(), TideBoats.NONE);
        TideBoats e = deep();
        e.set(3, 10);
        e.boat(0, 1, 14);
        pauses(e, 10);
        C.due("23: moves that lead nowhere", e.best(), TideBoats.NONE);
        C.due("23: moves there are", e.count(12), 10);
        e.pause();
        C.due("23: over", e.best(), TideBoats.NOT_POSSIBLE);
    }

    private static void bestOfNearest() {
        TideBoats x = deep();
        x.boat(0, 1, 7);
        x.boat(0, 1, 33 - 6);
        C.due("23: the nearest boat, the lowest direction", x.best(), 102);
        x.undo();
        C.due("23: of moves with the same turns, the first", x.best(), 1);
        TideBoats y = deep();
        y.boat(0, 1, 33 - 6);
        y.boat(0, 1, 29 - 6 - 1);
        C.due("23: of boats with the same turns, the lowest", y.best(), 2);

        TideBoats z = flat(4);
        z.sand(34, 1, true);
        z.sand(33, 0, false);
        z.boat(0, 1, 33);
        C.due("23: no water yet", z.best(), TideBoats.NONE);

        TideBoats w = flat(4);
        w.set(1, 1);
        for (int cell = 1; cell <= 4; cell++) {
            w.sand(cell, 1, cell == 3);
        }
        w.boat(1, 1, 4);
        w.boat(0, 1, 20);
        w.pause();
        C.due("23: not onto the rock", w.best(), 22);

        TideBoats v = flat(4);
        v.set(1, 1);
        for (int cell = 1; cell <= 5; cell++) {
            v.sand(cell, 1, cell < 5);
        }
        v.boat(1, 1, 5);
        v.pause();
        C.due("23: rocks alone", v.best(), TideBoats.NONE);
        C.due("23: moves there are", v.count(12), 3);
    }
}
