import java.io.IOException;
import java.nio.file.Files;
import java.nio.file.Path;
import java.util.function.Supplier;
import java.util.function.ToIntFunction;

/** Tests of the document's sentences, one by one: each names its promise and quotes the sentence. */
abstract class Sentences extends Boards {
    private static final Path DOCUMENT = Path.of("../shared/DOC.md");
    private static final int COUNTS = 19;

    private static final Checks CHECKS = new Checks();
    private static final String TEXT = document();
    private static String heading = "";
    private static int tests;

    /** A sentence of a promise, or of what the promise rests on ahead of it, and what it asks. */
    static void says(int promise, String sentence, Runnable test) {
        heading = promise + " \"" + sentence + "\": ";
        boolean isThere = part("## Promise " + promise + ":").contains(sentence)
            || part("## Terms").contains(sentence) || part("## What it is").contains(sentence);
        CHECKS.due(heading + "is in the document", isThere ? 1 : 0, 1);
        int before = CHECKS.looked();
        test.run();
        CHECKS.due(heading + "is looked at", CHECKS.looked() > before ? 1 : 0, 1);
        tests++;
    }

    static void due(String what, int got, int want) {
        CHECKS.due(heading + what, got, want);
    }

    static void dueFloat(String what, float got, float want) {
        CHECKS.dueFloat(heading + what, got, want);
    }

    /** The call is refused so, and all that can be told then is as if it had not been made. */
    static void refused(String what, Supplier<TideBoats> board, ToIntFunction<TideBoats> call, int answer) {
        TideBoats x = board.get();
        due(what, call.applyAsInt(x), answer);
        CHECKS.dueText(heading + "all behind " + what, seen(x), seen(board.get()));
    }

    /** The call answers so, and changes nothing that can be told. */
    static void told(String what, Supplier<TideBoats> board, ToIntFunction<TideBoats> call, int answer) {
        refused(what, board, call, answer);
    }

    /** The call answers so, records one state, and one undo takes all of it back. */
    static void act(String what, Supplier<TideBoats> board, ToIntFunction<TideBoats> call, int answer) {
        TideBoats x = board.get();
        String before = stateOf(board.get());
        int states = x.count(13);
        due(what, call.applyAsInt(x), answer);
        due("states behind " + what, x.count(13), Math.min(states + 1, 4));
        due("undo of " + what, x.undo(), Math.min(states, 3));
        CHECKS.dueText(heading + "all behind the undo of " + what, stateOf(x), before);
    }

    static void end() {
        System.out.print(tests + " sentences, ");
        CHECKS.end();
    }

    /** All that can be told of an object, its history and its snapshot; some 330 calls. */
    private static String seen(TideBoats x) {
        StringBuilder text = new StringBuilder(stateOf(x));
        text.append(" text ").append(x.count(14)).append(' ').append(x.fault());
        text.append(" history ").append(x.count(13));
        for (int i = 0; i < 5; i++) {
            text.append(" undo ").append(x.undo()).append(countsOf(x));
        }
        return text.append(" restore ").append(x.restore()).append(countsOf(x)).toString();
    }

    private static String stateOf(TideBoats x) {
        StringBuilder text = new StringBuilder(countsOf(x));
        for (int cell = 0; cell < 36; cell++) {
            text.append(" c").append(cell);
            text.append(' ').append(x.cellOf(cell, 0)).append(' ').append(x.cellOf(cell, 1));
            text.append(' ').append(x.cellOf(cell, 3));
        }
        for (int boat = 0; boat < x.count(5); boat++) {
            text.append(" b").append(boat);
            for (int what = 0; what <= 6; what++) {
                text.append(' ').append(x.boatOf(boat, what));
            }
        }
        return text.toString();
    }

    /** The counts that are of the state. */
    private static String countsOf(TideBoats x) {
        StringBuilder text = new StringBuilder();
        for (int what = 0; what < COUNTS; what++) {
            if (what != 13 && what != 14) {
                text.append(' ').append(x.count(what));
            }
        }
        return text.toString();
    }

    private static String part(String title) {
        int start = TEXT.indexOf(title);
        int end = start < 0 ? -1 : TEXT.indexOf("\n## ", start);
        return start < 0 ? "" : TEXT.substring(start, end < 0 ? TEXT.length() : end);
    }

    private static String document() {
        try {
            return Files.readString(DOCUMENT);
        } catch (IOException noDocument) {
            System.out.println("no document at " + DOCUMENT);
            return "";
        }
    }
}
