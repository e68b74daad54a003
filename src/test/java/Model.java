import java.util.ArrayList;
import java.util.LinkedHashSet;
import java.util.List;
import java.util.Set;
import java.util.regex.Matcher;
import java.util.regex.Pattern;

/**
 * The document once more, as slow and as plain as can be: what would be is found by doing it on a copy.
 * It shares no code with TideBoats, so that a mistake has to be made twice to stay unseen.
 */
final class Model {
    private static final Pattern TEXT = Pattern.compile(
        "(?:[a-f][1-6]=[0-4]\\*?|\\+[01][123][a-f][1-6]|[0-9][rdlu][123]|w)"
        + "(?:;(?:[a-f][1-6]=[0-4]\\*?|\\+[01][123][a-f][1-6]|[0-9][rdlu][123]|w))*");

    private static final class Boat implements Cloneable {
        int player;
        int draft;
        int row;
        int column;
        int how;
        int gone;

        Boat copy() {
            try {
                return (Boat) clone();
            } catch (CloneNotSupportedException e) {
                throw new IllegalStateException(e);
            }
        }
    }

    private static final class World {
        int[][] height = new int[6][6];
        boolean[][] rock = new boolean[6][6];
        int[] setting = {1, 3, 1, 60};
        List<Boat> boats = new ArrayList<>();
        int turn;
        int rammed;

        World copy() {
            World world = new World();
            for (int row = 0; row < 6; row++) {
                world.height[row] = height[row].clone();
                world.rock[row] = rock[row].clone();
            }
            world.setting = setting.clone();
            for (Boat boat : boats) {
                world.boats.add(boat.copy());
            }
            world.turn = turn;
            world.rammed = rammed;
            return world;
        }
    }

    private World world = new World();
    private final List<World> history = new ArrayList<>();
    private World snapshot;
    private String text = "";

    Model() {
        for (int row = 0; row < 6; row++) {
            for (int column = 0; column < 6; column++) {
                world.height[row][column] = harbour(row, column) >= 0 ? 0 : 1;
            }
        }
    }

    /** The player whose harbour it is, or -1. */
    private static int harbour(int row, int column) {
        return row == 5 && column == 5 ? 0 : row == 0 && column == 0 ? 1 : -1;
    }

    private static int tideOf(World w, int turn) {
        int up = 0;
        int level = w.setting[0];
        for (int t = 1; t <= turn; t++) {
            if (t % w.setting[2] == 0) {
                up = (up + 1) % (2 * w.setting[1]);
                level += up == 0 || up > w.setting[1] ? -1 : 1;
            }
        }
        return level;
    }

    private static int water(World w, int row, int column, int turn) {
        return Math.max(0, tideOf(w, turn) - w.height[row][column]);
    }

    private static boolean floating(World w, Boat b, int turn) {
        return water(w, b.row, b.column, turn) >= b.draft;
    }

    private static int at(World w, int row, int column) {
        for (int i = 0; i < w.boats.size(); i++) {
            Boat b = w.boats.get(i);
            if (b.how == 0 && b.row == row && b.column == column) {
                return i;
            }
        }
        return -5;
    }

    private static boolean over(World w) {
        boolean any = false;
        for (Boat b : w.boats) {
            any |= b.how == 0;
        }
        return !any || w.turn > w.setting[3];
    }

    private static int down(int direction) {
        return direction == 1 ? 1 : direction == 3 ? -1 : 0;
    }

    private static int right(int direction) {
        return direction == 0 ? 1 : direction == 2 ? -1 : 0;
    }

    private static int reason(World w, int boat, int direction, int steps, boolean any) {
        Boat b = w.boats.get(boat);
        if (over(w)) {
            return 1;
        }
        if (b.how != 0) {
            return 2;
        }
        if (!any && w.turn % 2 != b.player) {
            return 3;
        }
        if (!floating(w, b, w.turn)) {
            return 4;
        }
        boolean blocked = false;
        for (int i = 1; i <= steps; i++) {
            int row = b.row + i * down(direction);
            int column = b.column + i * right(direction);
            if (row < 0 || row > 5 || column < 0 || column > 5) {
                return 5;
            }
            if (harbour(row, column) == 1 - b.player) {
                return 5;
            }
            if (harbour(row, column) == b.player && i != steps) {
                return 5;
            }
            if (water(w, row, column, w.turn) < b.draft) {
                return 5;
            }
            int there = at(w, row, column);
            if (there >= 0) {
                Boat other = w.boats.get(there);
                blocked |= i != steps || other.player == b.player || floating(w, other, w.turn);
            }
        }
        return blocked ? 6 : 0;
    }

    private static void next(World w) {
        w.turn++;
        for (Boat b : w.boats) {
            if (b.how == 0 && w.rock[b.row][b.column] && floating(w, b, w.turn - 1) && !floating(w, b, w.turn)) {
                b.how = 2;
            }
        }
    }

    private static int go(World w, int boat, int direction, int steps) {
        Boat b = w.boats.get(boat);
        int row = b.row + steps * down(direction);
        int column = b.column + steps * right(direction);
        int result = 0;
        int there = at(w, row, column);
        if (there >= 0) {
            w.boats.get(there).how = 2;
            w.rammed++;
            result = w.boats.get(there).draft;
        }
        b.row = row;
        b.column = column;
        b.gone += steps;
        if (harbour(row, column) == b.player) {
            b.how = 1;
        }
        next(w);
        return result;
    }

    /** A copy with one boat alone, so that nothing is in its way. */
    private static World alone(World w, int boat) {
        World copy = w.copy();
        Boat only = copy.boats.get(boat);
        copy.boats.clear();
        copy.boats.add(only);
        return copy;
    }

    private static int home(World w, int boat) {
        List<World> worlds = new ArrayList<>();
        worlds.add(alone(w, boat));
        for (int turns = 1; turns <= 101; turns++) {
            List<World> later = new ArrayList<>();
            Set<Integer> cells = new LinkedHashSet<>();
            for (World from : worlds) {
                if (over(from)) {
                    continue;
                }
                List<World> behind = new ArrayList<>();
                World waits = from.copy();
                next(waits);
                behind.add(waits);
                for (int direction = 0; direction < 4; direction++) {
                    for (int steps = 1; steps <= 3; steps++) {
                        if (reason(from, 0, direction, steps, false) == 0) {
                            World moved = from.copy();
                            go(moved, 0, direction, steps);
                            behind.add(moved);
                        }
                    }
                }
                for (World one : behind) {
                    Boat b = one.boats.get(0);
                    if (b.how == 1) {
                        return turns;
                    }
                    if (b.how == 0 && cells.add(6 * b.row + b.column)) {
                        later.add(one);
                    }
                }
            }
            worlds = later;
        }
        return -5;
    }

    private boolean record(World old) {
        history.add(old);
        if (history.size() > 4) {
            history.remove(0);
        }
        return true;
    }

    private int act(World old, int answer) {
        if (answer >= 0) {
            record(old);
        }
        return answer;
    }

    int sand(int cell, int height, boolean rock) {
        return act(world.copy(), doSand(cell, height, rock));
    }

    private int doSand(int cell, int height, boolean rock) {
        if (cell < 0 || cell > 35) {
            return -1;
        }
        if (height < 0 || height > 4) {
            return -2;
        }
        int row = cell / 6;
        int column = cell % 6;
        if (world.turn != 0 || harbour(row, column) >= 0) {
            return -4;
        }
        int old = world.height[row][column];
        if (old == height && world.rock[row][column] == rock) {
            return -5;
        }
        world.height[row][column] = height;
        world.rock[row][column] = rock;
        return old;
    }

    int boat(int player, int draft, int cell) {
        return act(world.copy(), doBoat(player, draft, cell));
    }

    private int doBoat(int player, int draft, int cell) {
        if (player < 0 || player > 1 || cell < 0 || cell > 35) {
            return -1;
        }
        if (draft < 1 || draft > 3) {
            return -2;
        }
        int row = cell / 6;
        int column = cell % 6;
        if (world.turn != 0 || harbour(row, column) >= 0 || at(world, row, column) >= 0) {
            return -4;
        }
        if (world.boats.size() == 10) {
            return -3;
        }
        Boat b = new Boat();
        b.player = player;
        b.draft = draft;
        b.row = row;
        b.column = column;
        world.boats.add(b);
        return world.boats.size() - 1;
    }

    int set(int which, int value) {
        if (which < 0 || which > 3) {
            return -2;
        }
        int low = which == 0 ? 0 : which == 3 ? 10 : 1;
        int high = which == 0 ? 3 : which == 1 ? 4 : which == 2 ? 3 : 99;
        if (value < low || value > high) {
            return -2;
        }
        if (world.turn != 0) {
            return -4;
        }
        int old = world.setting[which];
        if (old == value) {
            return -5;
        }
        record(world.copy());
        world.setting[which] = value;
        return old;
    }

    int move(int boat, int direction, int steps) {
        return act(world.copy(), doMove(boat, direction, steps));
    }

    private int doMove(int boat, int direction, int steps) {
        int error = why(boat, direction, steps);
        if (error != 0) {
            return error < 0 ? error : -10 - error;
        }
        return go(world, boat, direction, steps);
    }

    int pause() {
        return act(world.copy(), doPause());
    }

    private int doPause() {
        if (over(world)) {
            return -4;
        }
        next(world);
        return tideOf(world, world.turn);
    }

    int type(char character) {
        if (text.length() == 60) {
            return -3;
        }
        text += character;
        return text.length();
    }

    int clearText() {
        int old = text.length();
        text = "";
        return old;
    }

    int fault() {
        for (int length = 1; length <= text.length(); length++) {
            Matcher matcher = TEXT.matcher(text.substring(0, length));
            if (!matcher.matches() && !matcher.hitEnd()) {
                return length - 1;
            }
        }
        return TEXT.matcher(text).matches() ? -5 : text.length();
    }

    int doAll() {
        int fault = fault();
        if (fault != -5) {
            return -100 - fault;
        }
        World old = world;
        world = old.copy();
        String[] orders = text.split(";");
        for (String order : orders) {
            int answer = doOrder(order);
            if (answer < 0 && answer != -5) {
                world = old;
                return answer;
            }
        }
        record(old);
        return orders.length;
    }

    private int doOrder(String order) {
        char[] c = order.toCharArray();
        if (c[0] == 'w') {
            return doPause();
        }
        if (c[0] == '+') {
            return doBoat(c[1] - '0', c[2] - '0', 6 * (c[4] - '1') + c[3] - 'a');
        }
        if (c[0] >= 'a') {
            return doSand(6 * (c[1] - '1') + c[0] - 'a', c[3] - '0', c.length == 5);
        }
        return doMove(c[0] - '0', "rdlu".indexOf(c[1]), c[2] - '0');
    }

    int undo() {
        if (history.isEmpty()) {
            return -5;
        }
        world = history.remove(history.size() - 1);
        return history.size();
    }

    int keep() {
        snapshot = world.copy();
        return world.turn;
    }

    int restore() {
        if (snapshot == null) {
            return -5;
        }
        record(world);
        world = snapshot.copy();
        return world.turn;
    }

    int cellOf(int cell, int what) {
        if (cell < 0 || cell > 35) {
            return -1;
        }
        int row = cell / 6;
        int column = cell % 6;
        switch (what) {
            case 0: return world.height[row][column];
            case 1: return world.rock[row][column] ? 1 : 0;
            case 2: return water(world, row, column, world.turn);
            case 3: return at(world, row, column);
            default: return -2;
        }
    }

    private boolean unknown(int boat) {
        return boat < 0 || boat >= world.boats.size();
    }

    int boatOf(int boat, int what) {
        if (unknown(boat)) {
            return -1;
        }
        Boat b = world.boats.get(boat);
        switch (what) {
            case 0: return b.player;
            case 1: return b.draft;
            case 2: return b.how;
            case 3: return b.how == 0 ? 6 * b.row + b.column : -5;
            case 4: return b.how == 0 && floating(world, b, world.turn) ? 1 : 0;
            case 5: return b.gone;
            case 6: return moves(boat);
            default: return -2;
        }
    }

    private int moves(int boat) {
        int found = 0;
        for (int i = 0; i < 12; i++) {
            found += reason(world, boat, i / 3, i % 3 + 1, true) == 0 ? 1 : 0;
        }
        return found;
    }

    int tide(int turn) {
        return turn < 0 || turn > 1000 ? -1 : tideOf(world, turn);
    }

    int why(int boat, int direction, int steps) {
        if (unknown(boat)) {
            return -1;
        }
        if (direction < 0 || direction > 3 || steps < 1 || steps > 3) {
            return -2;
        }
        return reason(world, boat, direction, steps, false);
    }

    int count(int what) {
        int[] how = new int[3];
        int[] score = new int[2];
        int aground = 0;
        int moves = 0;
        for (int i = 0; i < world.boats.size(); i++) {
            Boat b = world.boats.get(i);
            how[b.how]++;
            score[b.player] += b.how == 1 ? b.draft : 0;
            aground += b.how == 0 && !floating(world, b, world.turn) ? 1 : 0;
            moves += b.player == world.turn % 2 ? moves(i) : 0;
        }
        int[] all = {world.turn, world.turn % 2, tideOf(world, world.turn), score[0], score[1], world.boats.size(),
            how[0], how[1], how[2], aground, world.rammed, over(world) ? 1 : 0, moves, history.size(), text.length(),
            world.setting[0], world.setting[1], world.setting[2], world.setting[3]};
        return what < 0 || what > 18 ? -2 : all[what];
    }

    float afloat(int cell, int draft) {
        if (cell < 0 || cell > 35 || draft < 1 || draft > 3) {
            return -1.0f;
        }
        int all = world.setting[1] * world.setting[2] * 2;
        int wet = 0;
        for (int turn = 0; turn < all; turn++) {
            wet += water(world, cell / 6, cell % 6, turn) >= draft ? 1 : 0;
        }
        return (float) wet / (float) all;
    }

    int floatsIn(int boat) {
        if (unknown(boat)) {
            return -1;
        }
        Boat b = world.boats.get(boat);
        if (b.how != 0) {
            return -4;
        }
        for (int turns = 0; turns < 60; turns++) {
            if (floating(world, b, world.turn + turns)) {
                return turns;
            }
        }
        return -5;
    }

    int homeIn(int boat, int way) {
        if (unknown(boat)) {
            return -1;
        }
        if (way != 0 && way != 1) {
            return -2;
        }
        return world.boats.get(boat).how != 0 ? -4 : home(world, boat);
    }

    int inDanger(int player) {
        if (player != 0 && player != 1) {
            return -1;
        }
        if (over(world)) {
            return 0;
        }
        World later = world.copy();
        next(later);
        int set = 0;
        for (int i = 0; i < world.boats.size(); i++) {
            if (world.boats.get(i).player == player && world.boats.get(i).how == 0 && later.boats.get(i).how == 2) {
                set += 1 << i;
            }
        }
        return set;
    }

    int best() {
        if (over(world)) {
            return -4;
        }
        int homeMove = -5;
        int homeDraft = 0;
        int ramMove = -5;
        int ramDraft = 0;
        int nearMove = -5;
        int nearTurns = 1000;
        for (int boat = 0; boat < world.boats.size(); boat++) {
            for (int i = 0; i < 12; i++) {
                if (reason(world, boat, i / 3, i % 3 + 1, false) != 0) {
                    continue;
                }
                int code = 100 * boat + 10 * (i / 3) + i % 3 + 1;
                World later = world.copy();
                int rammed = go(later, boat, i / 3, i % 3 + 1);
                Boat b = later.boats.get(boat);
                if (b.how == 1 && b.draft > homeDraft) {
                    homeDraft = b.draft;
                    homeMove = code;
                }
                if (rammed > ramDraft) {
                    ramDraft = rammed;
                    ramMove = code;
                }
                int turns = b.how == 0 ? home(later, boat) : -5;
                if (turns > 0 && turns < nearTurns) {
                    nearTurns = turns;
                    nearMove = code;
                }
            }
        }
        return homeMove != -5 ? homeMove : ramMove != -5 ? ramMove : nearMove;
    }
}
