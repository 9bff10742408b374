import java.util.ArrayDeque;
import java.util.ArrayList;
import java.util.HashSet;
import java.util.List;
import java.util.Set;
import java.util.regex.Matcher;
import java.util.regex.Pattern;

/** The document once more, in another way: sets, lists and a pattern. For RandomGamesTest. */
final class Model {
    private static final String ORDER = "([cswbd](0|[1-9][0-9]?)|p)";
    private static final Pattern TEXT = Pattern.compile(ORDER + "(;" + ORDER + ")*");

    private static final class State {
        final int[] how = new int[82];
        final int[] maker = new int[82];
        final Set<Integer> gone = new HashSet<>();
        final List<List<Integer>> chalk = List.of(new ArrayList<>(), new ArrayList<>());
        final int[][] numbers = {{500, 5, 0, 0, 0, 0, 0, 0}, {500, 5, 0, 0, 0, 0, 0, 0}};
        int turns;

        State() {
            java.util.Arrays.fill(maker, -6);
        }

        State copy() {
            State copy = new State();
            System.arraycopy(how, 0, copy.how, 0, 82);
            System.arraycopy(maker, 0, copy.maker, 0, 82);
            copy.gone.addAll(gone);
            for (int player = 0; player < 2; player++) {
                copy.chalk.get(player).addAll(chalk.get(player));
                System.arraycopy(numbers[player], 0, copy.numbers[player], 0, 8);
            }
            copy.turns = turns;
            return copy;
        }
    }

    private State now = new State();
    private final List<State> history = new ArrayList<>();
    private final State[] slots = new State[2];
    private String pad = "";

    // ---- cloth

    private static boolean joint(int joint) {
        return joint >= 0 && joint <= 81;
    }

    private static int[] ends(int joint) {
        for (int row = 0; row < 6; row++) {
            for (int column = 0; column < 8; column++) {
                if (column < 7 && 7 * row + column == joint) {
                    return new int[] {8 * row + column, 8 * row + column + 1};
                }
                if (row < 5 && 42 + 8 * row + column == joint) {
                    return new int[] {8 * row + column, 8 * row + column + 8};
                }
            }
        }
        throw new IllegalArgumentException("joint " + joint);
    }

    private static final int[][] ENDS = new int[82][];

    static {
        for (int joint = 0; joint < 82; joint++) {
            ENDS[joint] = ends(joint);
        }
    }

    private boolean isVoid(int joint) {
        return now.gone.contains(ENDS[joint][0]) || now.gone.contains(ENDS[joint][1]);
    }

    private boolean holds(int joint) {
        return !isVoid(joint) && (now.how[joint] == 0 || now.how[joint] == 2);
    }

    private Set<Integer> piece(int start, boolean bluffed, int without) {
        Set<Integer> piece = new HashSet<>();
        if (now.gone.contains(start)) {
            return piece;
        }
        List<List<Integer>> next = new ArrayList<>();
        for (int cell = 0; cell < 48; cell++) {
            next.add(new ArrayList<>());
        }
        for (int joint = 0; joint < 82; joint++) {
            boolean open = holds(joint) || bluffed && now.how[joint] == 3 && !isVoid(joint);
            if (open && joint != without) {
                next.get(ENDS[joint][0]).add(ENDS[joint][1]);
                next.get(ENDS[joint][1]).add(ENDS[joint][0]);
            }
        }
        ArrayDeque<Integer> todo = new ArrayDeque<>(List.of(start));
        piece.add(start);
        while (!todo.isEmpty()) {
            for (int cell : next.get(todo.remove())) {
                if (piece.add(cell)) {
                    todo.add(cell);
                }
            }
        }
        return piece;
    }

    private Set<Integer> rag(int joint) {
        Set<Integer> first = piece(ENDS[joint][0], false, joint);
        Set<Integer> second = piece(ENDS[joint][1], false, joint);
        if (first.contains(ENDS[joint][1])) {
            return Set.of();
        }
        Set<Integer> smaller = second.size() <= first.size() ? second : first;
        return smaller.size() <= 12 ? smaller : Set.of();
    }

    private boolean over() {
        return now.gone.size() > 35 || now.turns >= 200;
    }

    private int next() {
        return now.turns % 2;
    }

    // ---- turns

    private int act(char kind, int joint) {
        if (kind != 'p' && !joint(joint)) {
            return -1;
        }
        if (over() || kind != 'p' && isVoid(joint)) {
            return -5;
        }
        int me = next();
        int answer = switch (kind) {
            case 'c' -> chalkIt(joint, me);
            case 's' -> snipIt(joint, me);
            case 'w' -> sewIt(joint, me);
            case 'b' -> bluffIt(joint, me);
            case 'd' -> doubtIt(joint, me);
            default -> 1 - me;
        };
        if (answer >= 0) {
            now.turns++;
        }
        return answer;
    }

    private int chalkIt(int joint, int me) {
        List<Integer> mine = now.chalk.get(me);
        if (!holds(joint) || mine.contains(joint)) {
            return -5;
        }
        if (mine.size() == 8) {
            return -4;
        }
        mine.add(joint);
        return mine.size();
    }

    private int snipIt(int joint, int me) {
        if (now.how[joint] == 1) {
            return -5;
        }
        if (now.chalk.get(1 - me).remove((Integer) joint)) {
            now.numbers[me][0] -= 3;
            now.numbers[me][5]++;
        }
        if (now.chalk.get(me).remove((Integer) joint)) {
            now.numbers[me][0]++;
        }
        now.how[joint] = 1;
        now.maker[joint] = -6;
        Set<Integer> rag = rag(joint);
        if (!rag.isEmpty()) {
            now.gone.addAll(rag);
            now.numbers[me][0] += rag.size();
            now.numbers[me][3]++;
            now.numbers[me][4] += rag.size();
            now.chalk.get(0).removeIf(this::isVoid);
            now.chalk.get(1).removeIf(this::isVoid);
        }
        return rag.size();
    }

    private int sewIt(int joint, int me) {
        if (now.how[joint] != 1 || now.numbers[me][1] == 0) {
            return -5;
        }
        now.how[joint] = 2;
        now.maker[joint] = me;
        return --now.numbers[me][1];
    }

    private int bluffIt(int joint, int me) {
        if (now.how[joint] != 1) {
            return -5;
        }
        now.how[joint] = 3;
        now.maker[joint] = me;
        return many(3);
    }

    private int doubtIt(int joint, int me) {
        if (now.maker[joint] != 1 - me) {
            return -5;
        }
        now.maker[joint] = -6;
        if (now.how[joint] == 3) {
            now.how[joint] = 1;
            now.numbers[me][0] += 2;
            now.numbers[me][6]++;
            return 1;
        }
        now.numbers[me][0] -= 2;
        now.numbers[me][7]++;
        return 0;
    }

    private void record(State state) {
        history.add(state);
        if (history.size() > 6) {
            history.remove(0);
        }
    }

    int turn(char kind, int joint) {
        State before = now.copy();
        int answer = act(kind, joint);
        if (answer >= 0) {
            record(before);
        }
        return answer;
    }

    // ---- what there is

    int of(int joint, int what) {
        if (!joint(joint)) {
            return -1;
        }
        return switch (what) {
            case 0 -> now.how[joint];
            case 1 -> isVoid(joint) ? 1 : 0;
            case 2, 3 -> ENDS[joint][what - 2];
            case 4 -> (now.chalk.get(0).contains(joint) ? 1 : 0) + (now.chalk.get(1).contains(joint) ? 2 : 0);
            case 5 -> over() || isVoid(joint) ? -6 : now.maker[joint];
            case 6 -> holds(joint) ? 1 : 0;
            default -> -2;
        };
    }

    int cell(int cell, int what) {
        if (cell < 0 || cell > 47) {
            return -1;
        }
        return switch (what) {
            case 0 -> now.gone.contains(cell) ? 1 : 0;
            case 1 -> piece(cell, false, -1).size();
            case 2 -> piece(cell, false, -1).stream().min(Integer::compare).orElse(-6);
            case 3 -> holdsOn(cell);
            default -> -2;
        };
    }

    private int holdsOn(int cell) {
        int many = 0;
        for (int joint = 0; joint < 82; joint++) {
            many += holds(joint) && (ENDS[joint][0] == cell || ENDS[joint][1] == cell) ? 1 : 0;
        }
        return many;
    }

    int player(int player, int what) {
        if (player != 0 && player != 1) {
            return -1;
        }
        if (what < 0 || what > 7) {
            return -2;
        }
        return what == 2 ? now.chalk.get(player).size() : now.numbers[player][what];
    }

    int chalked(int player, int rank) {
        if (player != 0 && player != 1 || rank < 0 || rank >= now.chalk.get(player).size()) {
            return -1;
        }
        return now.chalk.get(player).get(rank);
    }

    int count(int what) {
        return switch (what) {
            case 0 -> now.turns;
            case 1 -> next();
            case 2 -> over() ? 1 : 0;
            case 3 -> winner();
            case 4 -> 48 - now.gone.size();
            case 5 -> pieces();
            case 6, 7, 8 -> many(what - 5);
            case 9 -> pad.length();
            case 10 -> history.size();
            default -> -2;
        };
    }

    private int winner() {
        int ahead = Integer.compare(now.numbers[0][0], now.numbers[1][0]);
        return !over() ? -6 : ahead == 0 ? 2 : ahead > 0 ? 0 : 1;
    }

    private int pieces() {
        Set<Set<Integer>> pieces = new HashSet<>();
        for (int cell = 0; cell < 48; cell++) {
            pieces.add(piece(cell, false, -1));
        }
        pieces.remove(Set.<Integer>of());
        return pieces.size();
    }

    private int many(int how) {
        int many = 0;
        for (int joint = 0; joint < 82; joint++) {
            many += now.how[joint] == how && !isVoid(joint) ? 1 : 0;
        }
        return many;
    }

    // ---- what if

    int why(int joint) {
        if (!joint(joint)) {
            return -1;
        }
        return over() ? 1 : isVoid(joint) ? 2 : now.how[joint] == 1 ? 3 : 0;
    }

    int ifSnipped(int joint) {
        int why = why(joint);
        return why == -1 ? -1 : why != 0 ? -5 : rag(joint).size();
    }

    int bestSnip(int what) {
        if (what != 0 && what != 1) {
            return -2;
        }
        int best = -6;
        int most = -6;
        for (int joint = 81; joint >= 0; joint--) {
            if (why(joint) == 0) {
                int points = rag(joint).size() + (now.chalk.get(next()).contains(joint) ? 1 : 0);
                if (points >= most) {
                    most = points;
                    best = joint;
                }
            }
        }
        return what == 0 ? best : most;
    }

    int weak() {
        int many = 0;
        for (int joint = 0; joint < 82; joint++) {
            many += !over() && holds(joint) && !rag(joint).isEmpty() ? 1 : 0;
        }
        return many;
    }

    int together(int cell, int other, int way) {
        if (cell < 0 || cell > 47 || other < 0 || other > 47) {
            return -1;
        }
        if (way != 0 && way != 1) {
            return -2;
        }
        if (now.gone.contains(cell) || now.gone.contains(other)) {
            return -5;
        }
        return piece(cell, way == 1, -1).contains(other) ? 1 : 0;
    }

    // ---- texts

    int put(long characters) {
        StringBuilder text = new StringBuilder();
        long rest = characters;
        for (int i = 0; i < 8; i++) {
            text.append((char) (rest & 255));
            rest >>>= 8;
        }
        String put = text.reverse().toString().replaceFirst("^\0+", "");
        if (!put.matches("[!-~]{1,8}")) {
            return -2;
        }
        if (pad.length() + put.length() > 80) {
            return -4;
        }
        pad += put;
        return pad.length();
    }

    int wipe() {
        int length = pad.length();
        pad = "";
        return length;
    }

    int fault() {
        for (int length = 1; length <= pad.length(); length++) {
            Matcher matcher = TEXT.matcher(pad.substring(0, length));
            if (!matcher.matches() && !matcher.hitEnd()) {
                return length - 1;
            }
        }
        return TEXT.matcher(pad).matches() ? -6 : pad.length();
    }

    int carryOut() {
        if (fault() != -6) {
            return -3;
        }
        record(now.copy());
        int done = 0;
        for (String order : pad.split(";")) {
            int joint = order.length() > 1 ? Integer.parseInt(order.substring(1)) : 0;
            if (act(order.charAt(0), joint) < 0) {
                break;
            }
            done++;
        }
        pad = "";
        return done;
    }

    // ---- undo, saving

    int undo() {
        if (history.isEmpty()) {
            return -5;
        }
        now = history.remove(history.size() - 1);
        return history.size();
    }

    int save(int slot) {
        if (slot != 0 && slot != 1) {
            return -2;
        }
        slots[slot] = now.copy();
        return 48 - now.gone.size();
    }

    int restore(int slot) {
        if (slot != 0 && slot != 1) {
            return -2;
        }
        if (slots[slot] == null) {
            return -5;
        }
        record(now);
        now = slots[slot].copy();
        return 48 - now.gone.size();
    }
}
