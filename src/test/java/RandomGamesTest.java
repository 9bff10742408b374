/** All promises: games of 512 calls, drawn by a fixed rule, against the model. */
public final class RandomGamesTest {
    private static final int GAMES = 500;
    private static final int CALLS = 512;

    /** As many calls as one draw makes at most. */
    private static final int CALLS_OF_A_DRAW = 16;
    private static final int CALLS_TO_ASK_ALL = 350;
    private static final Check CHECK = new Check("RandomGamesTest");

    private final TailorChalks x = new TailorChalks();
    private final Model model = new Model();
    private final StringBuilder run = new StringBuilder();
    private final int style;
    private final boolean asksAll;
    private long seed;
    private int calls;

    private RandomGamesTest(int game) {
        seed = 1000003L * game + 12345;
        style = game % 5;
        asksAll = game / 5 % 2 == 0;
    }

    public static void main(String[] args) {
        for (int game = 0; game < GAMES && CHECK.allRight(); game++) {
            new RandomGamesTest(game).play();
        }
        CHECK.end();
    }

    /** A game of 512 calls, or a shorter one, behind which there are calls left to ask for all there is. */
    private void play() {
        int most = CALLS - CALLS_OF_A_DRAW - (asksAll ? CALLS_TO_ASK_ALL : 0);
        while (calls <= most && CHECK.allRight()) {
            draw();
        }
        if (asksAll) {
            askAll();
        }
        CHECK.isSo("the game has no more calls than " + CALLS, calls <= CALLS);
        if (!CHECK.allRight()) {
            System.out.println(run);
        }
    }

    private void draw() {
        int draw = below(100);
        if (draw < 60) {
            turn();
        } else if (draw < 82 && !asksAll) {
            ask();
        } else if (draw < 92) {
            write();
        } else {
            goBackOrSave();
        }
    }

    /** A fixed rule, so that each run of the test draws the same games. */
    private int below(int bound) {
        seed = seed * 6364136223846793005L + 1442695040888963407L;
        return (int) ((seed >>> 33) % bound);
    }

    private void due(String call, int got, int want) {
        calls++;
        run.append(call).append(' ').append(got).append('\n');
        CHECK.due(call, got, want);
    }

    private int number(int least, int greatest) {
        return below(60) == 0 ? strange() : least + below(greatest - least + 1);
    }

    private int strange() {
        int[] numbers = {-1, -2, 2, 3, 8, 11, 48, 49, 82, 83, 99, Integer.MIN_VALUE, Integer.MAX_VALUE};
        return numbers[below(numbers.length)];
    }

    private int joint() {
        if (below(4) == 0) {
            return jointThatIs(1 + below(3));
        }
        switch (style) {
            // Along lines, so that great pieces come apart.
            case 0: return below(3) > 0 ? 42 + 8 * 2 + below(8) : number(0, 81);
            case 1: return below(3) > 0 ? 3 + 7 * below(6) : number(0, 81);
            case 2: return below(4) > 0 ? model.bestSnip(0) : number(0, 81);
            case 3: return below(2) == 0 ? 42 + 8 * below(5) + below(8) : number(0, 20);
            default: return number(0, 81);
        }
    }

    private int jointThatIs(int how) {
        int from = below(82);
        for (int i = 0; i < 82; i++) {
            int joint = (from + i) % 82;
            if (model.of(joint, 0) == how && model.of(joint, 1) == 0) {
                return joint;
            }
        }
        return from;
    }

    private void turn() {
        char kind = "ccsssssssswbbbddp".charAt(below(17));
        int joint = joint();
        if (kind == 'd' && below(2) == 0) {
            joint = jointThatIs(2 + below(2));
        }
        String call = kind + "(" + joint + ")";
        switch (kind) {
            case 'c': due(call, x.chalk(joint), model.turn(kind, joint)); break;
            case 's': due(call, x.snip(joint), model.turn(kind, joint)); break;
            case 'w': due(call, x.sew(joint), model.turn(kind, joint)); break;
            case 'b': due(call, x.bluff(joint), model.turn(kind, joint)); break;
            case 'd': due(call, x.doubt(joint), model.turn(kind, joint)); break;
            default: due("pass()", x.pass(), model.turn('p', 0));
        }
    }

    private void ask() {
        int what = number(0, 6);
        int joint = number(0, 81);
        int cell = number(0, 47);
        int player = number(0, 1);
        switch (below(9)) {
            case 0: due("of(" + joint + ", " + what + ")", x.of(joint, what), model.of(joint, what)); break;
            case 1: due("cell(" + cell + ", " + what + ")", x.cell(cell, what), model.cell(cell, what)); break;
            case 2: due("player(" + player + ", " + what + ")", x.player(player, what), model.player(player, what)); break;
            case 3: due("chalked(" + player + ", " + what + ")", x.chalked(player, what), model.chalked(player, what)); break;
            case 4: due("why(" + joint + ")", x.why(joint), model.why(joint)); break;
            case 5: due("ifSnipped(" + joint + ")", x.ifSnipped(joint), model.ifSnipped(joint)); break;
            case 6: due("bestSnip(" + player + ")", x.bestSnip(player), model.bestSnip(player)); break;
            case 7: due("weak()", x.weak(), model.weak()); break;
            default: askTogether(cell, number(0, 47), number(0, 1));
        }
    }

    private void askTogether(int cell, int other, int way) {
        due("together(" + cell + ", " + other + ", " + way + ")", x.together(cell, other, way), model.together(cell, other, way));
    }

    private void askAll() {
        for (int joint = 0; joint < 82; joint++) {
            int what = below(7);
            due("of(" + joint + ", 0)", x.of(joint, 0), model.of(joint, 0));
            due("of(" + joint + ", " + what + ")", x.of(joint, what), model.of(joint, what));
            due("ifSnipped(" + joint + ")", x.ifSnipped(joint), model.ifSnipped(joint));
        }
        for (int player = 0; player <= 1; player++) {
            for (int what = 0; what <= 7; what++) {
                due("player(" + player + ", " + what + ")", x.player(player, what), model.player(player, what));
                due("chalked(" + player + ", " + what + ")", x.chalked(player, what), model.chalked(player, what));
            }
        }
        for (int what = 0; what <= 10; what++) {
            due("count(" + what + ")", x.count(what), model.count(what));
        }
        for (int cell = below(2); cell < 48; cell += 2) {
            int what = below(4);
            due("cell(" + cell + ", " + what + ")", x.cell(cell, what), model.cell(cell, what));
        }
        due("weak()", x.weak(), model.weak());
        due("bestSnip(0)", x.bestSnip(0), model.bestSnip(0));
        due("bestSnip(1)", x.bestSnip(1), model.bestSnip(1));
    }

    private void write() {
        switch (below(6)) {
            case 0: due("wipe()", x.wipe(), model.wipe()); break;
            case 1: due("fault()", x.fault(), model.fault()); break;
            case 2: due("carryOut()", x.carryOut(), model.carryOut()); break;
            case 3: writeOrders(); break;
            default: put(characters());
        }
    }

    private void put(long characters) {
        due("put(" + characters + ")", x.put(characters), model.put(characters));
    }

    private long characters() {
        if (below(10) == 0) {
            return (long) below(1 << 30) << 34 ^ (long) below(1 << 30) << 8 * below(4) ^ below(256);
        }
        StringBuilder text = new StringBuilder();
        for (int length = 1 + below(8); length > 0; length--) {
            text.append("cswbdppp;;;;01234567899x ".charAt(below(25)));
        }
        return Play.packed(text.toString());
    }

    private void writeOrders() {
        due("wipe()", x.wipe(), model.wipe());
        StringBuilder text = new StringBuilder();
        for (int orders = 1 + below(8); orders > 0; orders--) {
            char kind = "cssssswbdp".charAt(below(10));
            text.append(kind).append(kind == 'p' ? "" : Math.floorMod(joint(), 100)).append(orders == 1 ? "" : ";");
        }
        for (int from = 0; from < text.length(); from += 8) {
            put(Play.packed(text.substring(from, Math.min(text.length(), from + 8))));
        }
        due("fault()", x.fault(), model.fault());
        due("carryOut()", x.carryOut(), model.carryOut());
    }

    private void goBackOrSave() {
        int slot = number(0, 1);
        int draw = below(10);
        if (draw < 6) {
            due("undo()", x.undo(), model.undo());
        } else if (draw < 8) {
            due("save(" + slot + ")", x.save(slot), model.save(slot));
        } else {
            due("restore(" + slot + ")", x.restore(slot), model.restore(slot));
        }
    }
}
