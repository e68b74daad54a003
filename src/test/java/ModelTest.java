import java.util.Random;

/** Long runs of calls, always the same ones, on the program and on the model. */
public final class ModelTest {
    private static final int RUNS = 1500;
    private static final int CALLS = 512;

    private final Checks checks = new Checks();
    private final Random random;
    private final TideBoats it = new TideBoats();
    private final Model model = new Model();
    private final int run;
    private int calls;
    private static final int[] REACHED = new int[8];

    private ModelTest(int run) {
        this.run = run;
        random = new Random(run);
    }

    public static void main(String[] args) {
        Checks all = new Checks();
        for (int run = 0; run < RUNS && all.wrong() < 3; run++) {
            ModelTest test = new ModelTest(run);
            test.play();
            all.due("run " + run + ": too many calls", Math.max(0, test.calls - CALLS), 0);
            all.due("run " + run + ": wrong answers", test.checks.wrong(), 0);
        }
        System.out.println("seen: " + REACHED[0] + " moves, " + REACHED[1] + " rammed, " + REACHED[2] + " home, "
            + REACHED[3] + " texts done, " + REACHED[4] + " in danger, " + REACHED[5] + " best moves, "
            + REACHED[6] + " ways home, " + REACHED[7] + " games over");
        for (int seen : REACHED) {
            all.due("something seen too seldom", seen > 100 ? 1 : 0, 1);
        }
        all.end();
    }

    private void play() {
        int setups = 5 + random.nextInt(50);
        for (int i = 0; i < setups; i++) {
            setup();
        }
        if (random.nextInt(3) != 0) {
            deepen();
        }
        if (random.nextInt(4) == 0) {
            due("keep", it.keep(), model.keep());
        }
        while (calls < CALLS - 90) {
            step();
            if (random.nextInt(6) == 0) {
                askSome();
            }
        }
        for (int what = -1; what <= 19; what++) {
            due("count " + what, it.count(what), model.count(what));
        }
    }

    private void due(String call, int got, int want) {
        calls++;
        checks.due("run " + run + ", call " + calls + ": " + call, got, want);
    }

    private void setup() {
        switch (random.nextInt(4)) {
            case 0: sand(random.nextInt(36), random.nextInt(5), random.nextInt(3) == 0); break;
            case 1: boat(random.nextInt(2), 1 + random.nextInt(3), random.nextInt(36)); break;
            case 2: setting(random.nextInt(4)); break;
            default: odd(); break;
        }
    }

    /** Sands low enough that boats come somewhere. */
    private void deepen() {
        for (int i = 0; i < 60; i++) {
            sand(random.nextInt(36), random.nextInt(2), random.nextInt(4) == 0);
        }
    }

    private void setting(int which) {
        int value = which == 3 ? 10 + random.nextInt(90) : random.nextInt(5);
        due("set " + which + " " + value, it.set(which, value), model.set(which, value));
    }

    private void sand(int cell, int height, boolean rock) {
        due("sand " + cell + " " + height + " " + rock, it.sand(cell, height, rock), model.sand(cell, height, rock));
    }

    private void boat(int player, int draft, int cell) {
        due("boat " + player + " " + draft + " " + cell, it.boat(player, draft, cell), model.boat(player, draft, cell));
    }

    /** Wrong arguments now and then. */
    private int some(int from, int to) {
        switch (random.nextInt(12)) {
            case 0: return from - 1;
            case 1: return to + 1;
            case 2: return random.nextInt(4) == 0 ? random.nextInt() : from;
            default: return from + random.nextInt(to - from + 1);
        }
    }

    private void odd() {
        switch (random.nextInt(3)) {
            case 0: sand(some(0, 35), some(0, 4), random.nextBoolean()); break;
            case 1: boat(some(0, 1), some(1, 3), some(0, 35)); break;
            default:
                int which = some(0, 3);
                int value = some(0, 99);
                due("set " + which + " " + value, it.set(which, value), model.set(which, value));
                break;
        }
    }

    private void step() {
        switch (random.nextInt(16)) {
            case 0: odd(); break;
            case 1: due("undo", it.undo(), model.undo()); break;
            case 2:
                if (random.nextInt(8) == 0) {
                    due("keep", it.keep(), model.keep());
                }
                break;
            case 3:
                if (random.nextInt(8) == 0) {
                    due("restore", it.restore(), model.restore());
                }
                break;
            case 4: case 5: due("pause", it.pause(), model.pause()); break;
            case 6: text(); break;
            case 7: followBest(); break;
            default: moveSome(); break;
        }
    }

    private void moveSome() {
        int boats = model.count(5);
        for (int tries = 0; tries < 30; tries++) {
            int boat = random.nextInt(boats + 1);
            int direction = random.nextInt(4);
            int steps = 1 + random.nextInt(3);
            if (model.why(boat, direction, steps) == 0) {
                move(boat, direction, steps);
                return;
            }
        }
        move(some(0, 9), some(0, 3), some(1, 3));
        if (random.nextBoolean()) {
            due("pause", it.pause(), model.pause());
        }
    }

    private void move(int boat, int direction, int steps) {
        int homeBefore = model.count(7);
        int got = it.move(boat, direction, steps);
        due("move " + boat + " " + direction + " " + steps, got, model.move(boat, direction, steps));
        REACHED[0] += got >= 0 ? 1 : 0;
        REACHED[1] += got > 0 ? 1 : 0;
        REACHED[2] += model.count(7) > homeBefore ? 1 : 0;
    }

    private void followBest() {
        int best = it.best();
        due("best", best, model.best());
        if (best >= 0) {
            REACHED[5]++;
            move(best / 100, best / 10 % 10, best % 10);
        }
    }

    private void text() {
        if (random.nextInt(4) != 0) {
            due("clearText", it.clearText(), model.clearText());
        }
        StringBuilder orders = new StringBuilder();
        int number = random.nextInt(5);
        for (int i = 0; i <= number; i++) {
            orders.append(i == 0 ? "" : ";").append(order());
        }
        if (random.nextInt(4) == 0) {
            orders.setCharAt(random.nextInt(orders.length()), "abcgrdluw0123456789+=*; \u0000\u2022".charAt(random.nextInt(26)));
        }
        for (int i = 0; i < orders.length(); i++) {
            due("type " + orders.charAt(i), it.type(orders.charAt(i)), model.type(orders.charAt(i)));
        }
        due("fault", it.fault(), model.fault());
        int got = it.doAll();
        due("doAll " + orders, got, model.doAll());
        REACHED[3] += got > 0 ? 1 : 0;
    }

    private String order() {
        String cell = "" + "abcdef".charAt(random.nextInt(6)) + (1 + random.nextInt(6));
        int kind = model.count(0) == 0 ? random.nextInt(8) : 4 + random.nextInt(6);
        if (kind < 3) {
            return cell + "=" + random.nextInt(5) + (random.nextBoolean() ? "*" : "");
        }
        if (kind < 5) {
            return "+" + random.nextInt(2) + (1 + random.nextInt(3)) + cell;
        }
        return kind < 8 ? random.nextInt(10) + "" + "rdlu".charAt(random.nextInt(4)) + (1 + random.nextInt(3)) : "w";
    }

    private void askSome() {
        for (int what = 0; what <= 14; what++) {
            if (random.nextInt(3) == 0) {
                due("count " + what, it.count(what), model.count(what));
            }
        }
        for (int player = 0; player <= 1; player++) {
            int danger = it.inDanger(player);
            due("inDanger " + player, danger, model.inDanger(player));
            REACHED[4] += danger != 0 ? 1 : 0;
        }
        REACHED[7] += model.count(11);
        int boat = some(0, 9);
        int way = some(0, 1);
        int turns = it.homeIn(boat, way);
        due("homeIn " + boat + " " + way, turns, model.homeIn(boat, way));
        REACHED[6] += turns > 0 ? 1 : 0;
        boat = some(0, 9);
        due("homeIn " + boat, it.homeIn(boat, calls % 2), model.homeIn(boat, calls % 2));
        due("floatsIn " + boat, it.floatsIn(boat), model.floatsIn(boat));
        int what = some(0, 6);
        due("boatOf " + boat + " " + what, it.boatOf(boat, what), model.boatOf(boat, what));
        int cell = some(0, 35);
        what = some(0, 3);
        due("cellOf " + cell + " " + what, it.cellOf(cell, what), model.cellOf(cell, what));
        int draft = some(1, 3);
        calls++;
        checks.dueFloat("afloat " + cell + " " + draft, it.afloat(cell, draft), model.afloat(cell, draft));
        int turn = some(0, 1000);
        due("tide " + turn, it.tide(turn), model.tide(turn));
        int direction = some(0, 3);
        int steps = some(1, 3);
        due("why " + boat + " " + direction + " " + steps, it.why(boat, direction, steps), model.why(boat, direction, steps));
    }
}
