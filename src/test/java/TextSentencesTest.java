/** The sentences on the text and its orders: promises 7 to 10. */
public final class TextSentencesTest extends Sentences {
    private static final String START = "abcdef+0123456789w";
    private static final String LONGEST = "w;w;w;w;w;w;w;w;w;w;w;w;w;w;w;w;w;w;w;w;w;w;w;w;w;w;w;w;w;w";

    public static void main(String[] args) {
        typed();
        cleared();
        faultOfPlaces();
        faultOfOrders();
        faultOfEnds();
        faultOfText();
        ordersOfSand();
        ordersOfBoats();
        ordersOfMoves();
        allOrNone();
        answersOfDoAll();
        faultsOfDoAll();
        errorsOfDoAll();
        errorsOfMoves();
        end();
    }

    private static TideBoats text(String text) {
        TideBoats x = new TideBoats();
        write(x, text);
        return x;
    }

    /** Boats in 14 and, aground up to the turn 1, in 20 below it, and a text. */
    private static TideBoats boatsAndText(String text) {
        TideBoats x = new TideBoats();
        x.sand(14, 0, false);
        x.sand(20, 0, false);
        x.boat(0, 1, 14);
        x.boat(1, 3, 20);
        write(x, text);
        return x;
    }

    private static void typed() {
        says(7, "Returns the length then", () -> {
            TideBoats x = new TideBoats();
            for (int length = 1; length <= 60; length++) {
                due("length", x.type(';'), length);
                due("length told", x.count(14), length);
            }
            x.clearText();
            due("length behind an empty text", x.type('w'), 1);
        });
        says(7, "FULL if it has 60 characters", () -> {
            refused("a character more", () -> text(LONGEST + ";"), y -> y.type('w'), FULL);
            refused("the same character", () -> text(LONGEST + ";"), y -> y.type(';'), FULL);
            due("the last that has room", text(LONGEST).type(';'), 60);
            TideBoats x = text(LONGEST + ";");
            x.clearText();
            due("behind an empty text", x.type('w'), 1);
        });
        says(7, "There is a text of at most 60 characters", () -> {
            TideBoats x = text(LONGEST + "w;w;w;w");
            due("length", x.count(14), 60);
            due("the character 60, not the 61st", x.fault(), 59);
        });
        says(7, "`character`: any character", () -> {
            for (char sign : new char[] {0, 10, 31, 32, 126, 127, 128, 255, 256, 0x7FFF, 0xD800, 0xFFFF}) {
                TideBoats x = text("w");
                due("sign " + (int) sign, x.type(sign), 2);
                due("its place", x.fault(), 1);
            }
        });
        says(7, "Appends a character to the text.", () -> {
            TideBoats x = new TideBoats();
            x.boat(0, 1, 7);
            x.type('w');
            due("acts", x.count(13), 1);
            due("turn", x.count(0), 0);
            due("fault", x.fault(), NONE);
            x.type('0');
            due("behind the first, not ahead of it", x.fault(), 1);
        });
    }

    private static void cleared() {
        says(8, "Returns the length that it had", () -> {
            due("an empty text", new TideBoats().clearText(), 0);
            due("one character", text("w").clearText(), 1);
            due("full", text(LONGEST + ";").clearText(), 60);
            TideBoats x = text("w;w");
            x.clearText();
            due("empty again", x.clearText(), 0);
        });
        says(8, "Empties the text.", () -> {
            TideBoats x = boatsAndText("w;w");
            x.clearText();
            due("length", x.count(14), 0);
            due("fault", x.fault(), 0);
            due("orders", x.doAll(), -100);
            due("acts", x.count(13), 4);
            x.type('w');
            due("fault of the first character alone", x.fault(), NONE);
            due("orders then", x.doAll(), 1);
        });
    }

    private static void faultOf(String text, int want) {
        due("fault of '" + text + "'", text(text).fault(), want);
    }

    /** Which characters may come behind a beginning that has no fault so far. */
    private static void allowed(String beginning, String signs) {
        for (int sign = 0; sign < 300; sign++) {
            TideBoats x = text(beginning);
            x.type((char) sign);
            boolean isAllowed = signs.indexOf((char) sign) >= 0;
            int fault = x.fault();
            boolean isFault = fault == beginning.length();
            due("the sign " + sign + " behind '" + beginning + "', allowed", isFault ? 0 : 1, isAllowed ? 1 : 0);
            if (isAllowed) {
                boolean isWhole = fault == NONE || fault == beginning.length() + 1;
                due("the fault behind '" + beginning + "' and " + sign, isWhole ? 1 : 0, 1);
            }
        }
    }

    private static void faultOfPlaces() {
        says(9, "a cell (a letter a to f for the column, a digit 1 to 6 for the row, from 0 on)", () -> {
            allowed("a", "123456");
            allowed("f", "123456");
            allowed("+01", "abcdef");
            allowed("+13f", "123456");
        });
        says(9, "and \"=\" and a height 0 to 4, then perhaps \"*\" (a rock): sand", () -> {
            allowed("a1", "=");
            allowed("c4=", "01234");
            allowed("a1=0", "*;");
            allowed("f6=4*", ";");
        });
        says(9, "\"+\" and a player 0 or 1, a draft 1 to 3, and a cell: a boat comes", () -> {
            allowed("+", "01");
            allowed("+0", "123");
            allowed("+1", "123");
            allowed("+02a1", ";");
        });
        says(9, "a boat (0 to 9), a direction (\"r\", \"d\", \"l\", \"u\" for 0 to 3), and steps 1 to 3: a move", () -> {
            allowed("0", "rdlu");
            allowed("9", "rdlu");
            allowed("0r", "123");
            allowed("5u", "123");
            allowed("9d3", ";");
        });
        says(9, "\"w\": a wait", () -> {
            allowed("", START);
            allowed("w", ";");
        });
        says(9, "A text of orders is one or more orders with \";\" between two", () -> {
            allowed("w;", START);
            allowed("a1=0*;", START);
            allowed("a1=0;", START);
            allowed("+01a1;", START);
            allowed("0r1;", START);
        });
    }

    private static void faultOfOrders() {
        says(9, "one or more orders with \";\" between two", () -> {
            faultOf("", 0);
            faultOf(";", 0);
            faultOf("w", NONE);
            faultOf(";w", 0);
            faultOf("w;w", NONE);
            faultOf("w;;w", 2);
            faultOf("ww", 1);
            faultOf("w w", 1);
            faultOf("a1=0+01a2", 4);
            faultOf("0r11r1", 3);
            faultOf("a2=0*;a2=0;+01a2;0r1;w", NONE);
            faultOf("w;0r1;+01a2;a2=0;a2=0*", NONE);
        });
        says(9, "the index, from 0, of the first character that is not allowed at its place", () -> {
            faultOf("x", 0);
            faultOf("xx", 0);
            faultOf("w;x;x", 2);
            faultOf("a9=9", 1);
            faultOf("a1=9*", 3);
            faultOf("a1=0**", 5);
            faultOf("w;a1=0*;+01g1", 11);
            faultOf("w*", 1);
            faultOf("+01a1*", 5);
            faultOf("0r1*", 3);
            faultOf(LONGEST + "x", 59);
            faultOf("x" + LONGEST, 0);
        });
    }

    private static void faultOfEnds() {
        says(9, "or the length of the text if it ends too early (the empty text does)", () -> {
            faultOf("", 0);
            for (String order : new String[] {"a1=0", "+01a1", "0r1", "f6=4*"}) {
                for (int length = 1; length < order.length(); length++) {
                    boolean isWhole = order.charAt(length) == '*';
                    faultOf(order.substring(0, length), isWhole ? NONE : length);
                    faultOf("w;" + order.substring(0, length), isWhole ? NONE : 2 + length);
                }
                faultOf(order, NONE);
                faultOf(order + ";", order.length() + 1);
            }
            faultOf("w;", 2);
            faultOf(LONGEST, NONE);
            faultOf(LONGEST + ";", 60);
            faultOf(LONGEST.substring(2) + ";+0", 60);
        });
    }

    private static void faultOfText() {
        says(9, "Tells the fault of the text.", () -> {
            told("no fault", () -> boatsAndText("w;w"), TideBoats::fault, NONE);
            told("a fault", () -> boatsAndText("w;x"), TideBoats::fault, 2);
            told("no text", TideBoats::new, TideBoats::fault, 0);
        });
        says(9, "Returns the index", () -> {
            for (int orders = 1; orders <= 30; orders++) {
                String text = LONGEST.substring(0, 2 * orders - 1);
                faultOf(text, NONE);
                faultOf(text + "x", text.length());
                faultOf(text + ";", text.length() + 1);
            }
        });
        says(9, "NONE if it has none", () -> {
            // What the orders could not do is no fault of the text.
            faultOf("a1=0*", NONE);
            faultOf("f6=4", NONE);
            faultOf("9r3", NONE);
            faultOf("+01a1;+01a1", NONE);
            faultOf("w;w;w", NONE);
        });
    }

    private static void ordersOfSand() {
        says(10, "a letter a to f for the column, a digit 1 to 6 for the row, from 0 on", () -> {
            for (int cell = 1; cell < 35; cell++) {
                String name = "" + "abcdef".charAt(cell % 6) + "123456".charAt(cell / 6);
                TideBoats x = text(name + "=3*;+12" + name);
                due("orders", x.doAll(), 2);
                due("height of " + name, x.cellOf(cell, 0), 3);
                due("boat in " + name, x.cellOf(cell, 3), 0);
            }
        });
        says(10, "a height 0 to 4, then perhaps \"*\" (a rock): sand", () -> {
            for (int height = 0; height <= 4; height++) {
                TideBoats x = text("b2=" + height + "*");
                due("with a rock", x.doAll(), 1);
                due("height", x.cellOf(7, 0), height);
                due("rock", x.cellOf(7, 1), 1);
                write(x, "b2=" + height + ";c2=4*");
                due("without", x.doAll(), 2);
                due("height then", x.cellOf(7, 0), height);
                due("rock then", x.cellOf(7, 1), 0);
            }
        });
    }

    private static void ordersOfBoats() {
        says(10, "a player 0 or 1, a draft 1 to 3, and a cell: a boat comes", () -> {
            for (int player = 0; player < 2; player++) {
                for (int draft = 1; draft <= 3; draft++) {
                    TideBoats x = text("+" + player + draft + "e6");
                    due("orders", x.doAll(), 1);
                    due("player", x.boatOf(0, 0), player);
                    due("draft", x.boatOf(0, 1), draft);
                    due("cell", x.boatOf(0, 3), 34);
                }
            }
        });
    }

    private static void ordersOfMoves() {
        says(10, "a boat (0 to 9), a direction (\"r\", \"d\", \"l\", \"u\" for 0 to 3), and steps 1 to 3: a move", () -> {
            int[] cells = {1, 6, -1, -6};
            for (int direction = 0; direction < 4; direction++) {
                for (int steps = 1; steps <= 3; steps++) {
                    int cell = direction < 2 ? 7 : 28;
                    TideBoats x = deep();
                    x.boat(0, 1, cell);
                    write(x, "0" + "rdlu".charAt(direction) + steps);
                    due("orders", x.doAll(), 1);
                    due("cell", x.boatOf(0, 3), cell + steps * cells[direction]);
                }
            }
            for (int boat = 0; boat < 10; boat++) {
                TideBoats x = deep();
                for (int i = 0; i < 10; i++) {
                    x.boat(0, 1, i < 5 ? 1 + i : 13 + i);
                }
                write(x, boat + "d1");
                due("orders", x.doAll(), 1);
                due("cell of " + boat, x.boatOf(boat, 3), boat < 5 ? 7 + boat : 19 + boat);
            }
        });
        says(10, "\"w\": a wait", () -> {
            TideBoats x = boatsAndText("w;w;w");
            due("orders", x.doAll(), 3);
            due("turn", x.count(0), 3);
        });
    }

    private static void allOrNone() {
        says(10, "all of them or none", () -> {
            refused("the last has an error", () -> boatsAndText("a2=0*;+03a3;w;w;0r1;2u1"), TideBoats::doAll, -13);
            refused("one in the middle has an error", () -> boatsAndText("a2=0*;a1=0;w"), TideBoats::doAll, NOT_POSSIBLE);
            refused("behind a ram", () -> boatsAndText("0d1;0u1"), TideBoats::doAll, -13);
            refused("behind a wreck", () -> boatsAndText("c3=2*;c4=0;w;w;w;w;w;0d1"), TideBoats::doAll, -12);
            refused("behind a way home", TextSentencesTest::homeAndBack, TideBoats::doAll, -12);
        });
        says(10, "Does the orders of the text, which stays, one after the other", () -> {
            TideBoats x = boatsAndText("0r1");
            due("too high ahead", x.doAll(), -15);
            write(x, "d3=0;0r1");
            due("the sand first", x.doAll(), 2);
            due("length", x.count(14), 8);
            due("again, in the turn 1", x.doAll(), NOT_POSSIBLE);
            write(x, "w;0l1");
            due("a wait first", x.doAll(), 2);
            due("the same again", x.doAll(), 2);
            due("turn", x.count(0), 5);
            due("cell", x.boatOf(0, 3), 13);
            write(x, "0r1;w");
            due("a wait last", x.doAll(), -13);
        });
        says(10, "This is one act.", () -> {
            act("one order", () -> boatsAndText("w"), TideBoats::doAll, 1);
            act("six orders", () -> boatsAndText("a2=0*;b2=3;+03a3;w;w;0u1"), TideBoats::doAll, 6);
            act("a ram", () -> boatsAndText("0d1"), TideBoats::doAll, 1);
            act("thirty orders", () -> boatsAndText(LONGEST), TideBoats::doAll, 30);
            act("orders of settled things", () -> boatsAndText("c3=0"), TideBoats::doAll, 1);
        });
    }

    private static TideBoats homeAndBack() {
        TideBoats x = new TideBoats();
        x.sand(34, 0, false);
        x.boat(0, 1, 34);
        x.boat(1, 1, 7);
        write(x, "0r1;w;0l1");
        return x;
    }

    private static void answersOfDoAll() {
        says(10, "An order that returns NONE does nothing, and is no error.", () -> {
            TideBoats x = boatsAndText("c3=0;c3=4;c3=4;a2=1");
            due("orders", x.doAll(), 4);
            due("height", x.cellOf(14, 0), 4);
            due("orders, all of them settled but one", x.doAll(), 4);
            write(x, "c3=4;a2=1");
            due("orders, all of them settled", x.doAll(), 2);
            write(x, "c3=4;a1=0");
            due("an error behind it", x.doAll(), NOT_POSSIBLE);
        });
        says(10, "Returns how many orders the text has", () -> {
            due("one", boatsAndText("w").doAll(), 1);
            due("two", boatsAndText("w;w").doAll(), 2);
            due("thirty", boatsAndText(LONGEST).doAll(), 30);
            due("ten boats", text("+01a2;+01a3;+01a4;+01a5;+01a6;+11b1;+12b2;+13b3;+11b4;+02b5").doAll(), 10);
            due("ten rocks", text("a2=0*;b2=1*;c2=2*;d2=3*;e2=4*;f2=0*;a3=0*;b3=0*;c3=0*;d3=0*").doAll(), 10);
        });
    }

    private static void faultsOfDoAll() {
        says(10, "-100 minus the fault of the text if it has one (which is an error)", () -> {
            refused("an empty text", () -> boatsAndText(""), TideBoats::doAll, -100);
            refused("the first character", () -> boatsAndText("x;w"), TideBoats::doAll, -100);
            refused("the second character", () -> boatsAndText("wx"), TideBoats::doAll, -101);
            refused("behind a good order", () -> boatsAndText("w;"), TideBoats::doAll, -102);
            refused("a full text", () -> boatsAndText(LONGEST + ";"), TideBoats::doAll, -160);
        });
        says(10, "if it has one (which is an error); otherwise the error that the method of the first order", () -> {
            refused("ahead of a harbour", () -> boatsAndText("a1=0;"), TideBoats::doAll, -105);
            refused("ahead of a boat that is not there", () -> boatsAndText("9r1;9r"), TideBoats::doAll, -106);
            refused("ahead of a game that is over", () -> text("w;w;x"), TideBoats::doAll, -104);
            refused("ahead of settled things", () -> boatsAndText("c3=0;c3=0x"), TideBoats::doAll, -109);
        });
    }

    private static void errorsOfDoAll() {
        says(10, "the error that the method of the first order returns that has one when its turn comes", () -> {
            refused("a harbour", () -> boatsAndText("a1=0"), TideBoats::doAll, NOT_POSSIBLE);
            refused("the other harbour", () -> boatsAndText("f6=1*"), TideBoats::doAll, NOT_POSSIBLE);
            refused("sand behind a wait", () -> boatsAndText("w;c3=0"), TideBoats::doAll, NOT_POSSIBLE);
            refused("a boat in a harbour", () -> boatsAndText("+01a1"), TideBoats::doAll, NOT_POSSIBLE);
            refused("a boat on a boat", () -> boatsAndText("+01b1;+11b1"), TideBoats::doAll, NOT_POSSIBLE);
            refused("a boat behind a wait", () -> boatsAndText("w;+01b1"), TideBoats::doAll, NOT_POSSIBLE);
            refused("no such boat", () -> boatsAndText("2r1"), TideBoats::doAll, UNKNOWN);
            refused("a wait without a boat", () -> text("w"), TideBoats::doAll, NOT_POSSIBLE);
            refused("the eleventh boat", TextSentencesTest::elevenBoats, TideBoats::doAll, FULL);
            refused("a wait behind the end", TextSentencesTest::endsInBetween, TideBoats::doAll, NOT_POSSIBLE);
            refused("the first of two errors", () -> boatsAndText("9r1;a1=0"), TideBoats::doAll, UNKNOWN);
            refused("the first of two others", () -> boatsAndText("a1=0;9r1"), TideBoats::doAll, NOT_POSSIBLE);
        });
        says(10, "when its turn comes", () -> {
            due("a boat that comes just ahead", boatsAndText("d3=0;+01d3;2d1").doAll(), -15);
            due("a boat that comes behind", boatsAndText("d3=0;2d1;+01d3").doAll(), UNKNOWN);
            due("water that comes", boatsAndText("w;1d1").doAll(), -14);
            due("water that came", boatsAndText("w;w;w;1d1").doAll(), 4);
            due("the first wait", text("+01a2;w").doAll(), 2);
        });
    }

    private static TideBoats elevenBoats() {
        TideBoats x = new TideBoats();
        x.boat(0, 1, 1);
        write(x, "+01a2;+01a3;+01a4;+01a5;+01a6;+11b2;+12b3;+13b4;+11b5;+02b6");
        return x;
    }

    private static TideBoats endsInBetween() {
        TideBoats x = boatsAndText("w;w;w");
        x.set(3, 10);
        pauses(x, 9);
        return x;
    }

    private static void errorsOfMoves() {
        says(10, "otherwise the error that the method of the first order returns", () -> {
            refused("11", TextSentencesTest::moveBehindTheEnd, TideBoats::doAll, -11);
            refused("12", TextSentencesTest::homeAndBack, TideBoats::doAll, -12);
            refused("13", () -> boatsAndText("1u1"), TideBoats::doAll, -13);
            refused("14", () -> boatsAndText("+03a2;2u1"), TideBoats::doAll, -14);
            refused("15", () -> boatsAndText("0r1"), TideBoats::doAll, -15);
            refused("16", () -> boatsAndText("c2=0;+01c2;0u1"), TideBoats::doAll, -16);
        });
    }

    private static TideBoats moveBehindTheEnd() {
        TideBoats x = boatsAndText("w;w;0r1");
        x.set(3, 10);
        pauses(x, 9);
        return x;
    }
}
