/**
 * Game of tailors' chalk: two players hide chalk on the joints of a cloth, snip, sew, bluff and
 * doubt, and get points for the rags that fall off. README.md tells how to use it.
 *
 * All objects and arrays are made in constructors: a run's calls share one room, so none may fill it.
 */
public final class TailorChalks {
    public static final int NO_SUCH = -1, BAD_VALUE = -2, BAD_TEXT = -3, TOO_MANY = -4, NOT_POSSIBLE = -5, NONE = -6;

    /** Points can be below 0, and an answer below 0 would be an error code. */
    private static final int POINTS_OFFSET = 500;

    private final Game game;
    private final History history;
    private final Slot slotZero;
    private final Slot slotOne;
    private final Pad pad;

    public TailorChalks() {
        game = new Game();
        history = new History();
        slotZero = new Slot();
        slotOne = new Slot();
        pad = new Pad();
    }

    // ---- turns

    public int chalk(int joint) {
        return takeTurn(Game.CHALK, joint);
    }

    public int snip(int joint) {
        return takeTurn(Game.SNIP, joint);
    }

    public int sew(int joint) {
        return takeTurn(Game.SEW, joint);
    }

    public int bluff(int joint) {
        return takeTurn(Game.BLUFF, joint);
    }

    public int doubt(int joint) {
        return takeTurn(Game.DOUBT, joint);
    }

    public int pass() {
        return takeTurn(Game.PASS, 0);
    }

    private int takeTurn(char order, int joint) {
        history.note(game);
        int answer = game.obey(order, joint);
        if (answer >= 0) {
            history.keepNoted();
        }
        return answer;
    }

    // ---- what there is

    public int of(int joint, int what) {
        if (!Cloth.isJoint(joint)) {
            return NO_SUCH;
        }
        switch (what) {
            case 0: return game.cloth.stateOf(joint);
            case 1: return asNumber(game.cloth.isVoid(joint));
            case 2: return Cloth.firstCell(joint);
            case 3: return Cloth.secondCell(joint);
            case 4: return game.chalkersOf(joint);
            case 5: return game.doubtableMaker(joint);
            case 6: return asNumber(game.cloth.holds(joint));
            default: return BAD_VALUE;
        }
    }

    public int cell(int cell, int what) {
        if (!Cloth.isCell(cell)) {
            return NO_SUCH;
        }
        switch (what) {
            case 0: return asNumber(game.cloth.isGone(cell));
            case 1: return Long.bitCount(game.cloth.pieceOf(cell));
            case 2: return game.cloth.lowestOfPiece(cell);
            case 3: return game.cloth.holdsOn(cell);
            default: return BAD_VALUE;
        }
    }

    public int player(int player, int what) {
        if (!Game.isPlayer(player)) {
            return NO_SUCH;
        }
        Tailor tailor = game.tailorOf(player);
        switch (what) {
            case 0: return tailor.points + POINTS_OFFSET;
            case 1: return tailor.threads;
            case 2: return tailor.marks;
            case 3: return tailor.rags;
            case 4: return tailor.ragCells;
            case 5: return tailor.found;
            case 6: return tailor.rightDoubts;
            case 7: return tailor.wrongDoubts;
            default: return BAD_VALUE;
        }
    }

    public int chalked(int player, int rank) {
        if (!Game.isPlayer(player)) {
            return NO_SUCH;
        }
        return game.tailorOf(player).markAt(rank);
    }

    public int count(int what) {
        switch (what) {
            case 0: return game.turns;
            case 1: return game.next;
            case 2: return asNumber(game.isOver());
            case 3: return game.winner();
            case 4: return game.cloth.cellsLeft();
            case 5: return game.cloth.pieces();
            case 6: return game.cloth.jointsThatAre(Cloth.CUT);
            case 7: return game.cloth.jointsThatAre(Cloth.SEWN);
            case 8: return game.cloth.jointsThatAre(Cloth.BLUFFED);
            case 9: return pad.length;
            case 10: return history.kept;
            default: return BAD_VALUE;
        }
    }

    private static int asNumber(boolean so) {
        return so ? 1 : 0;
    }

    // ---- what if

    public int why(int joint) {
        return Cloth.isJoint(joint) ? game.whyNoSnip(joint) : NO_SUCH;
    }

    public int ifSnipped(int joint) {
        if (!Cloth.isJoint(joint)) {
            return NO_SUCH;
        }
        if (game.whyNoSnip(joint) != 0) {
            return NOT_POSSIBLE;
        }
        return Long.bitCount(game.cloth.ragOf(joint));
    }

    public int bestSnip(int what) {
        if (what != 0 && what != 1) {
            return BAD_VALUE;
        }
        int joint = game.bestJoint();
        return what == 0 || joint == NONE ? joint : game.openGain(joint);
    }

    public int weak() {
        return game.isOver() ? 0 : game.cloth.weakJoints();
    }

    public int together(int cell, int other, int way) {
        if (!Cloth.isCell(cell) || !Cloth.isCell(other)) {
            return NO_SUCH;
        }
        if (way != 0 && way != 1) {
            return BAD_VALUE;
        }
        if (game.cloth.isGone(cell) || game.cloth.isGone(other)) {
            return NOT_POSSIBLE;
        }
        long piece = way == 0 ? game.cloth.pieceOf(cell) : game.cloth.pieceIfBluffedHeld(cell);
        return asNumber(Cloth.has(piece, other));
    }

    // ---- texts

    public int put(long characters) {
        return pad.append(characters);
    }

    public int wipe() {
        return pad.clear();
    }

    public int fault() {
        return pad.firstFault();
    }

    public int carryOut() {
        if (pad.firstFault() != NONE) {
            return BAD_TEXT;
        }
        history.note(game);
        history.keepNoted();
        int done = obeyPad();
        pad.clear();
        return done;
    }

    /** Takes a pad without a fault, so what stands before each end of an order is one whole order. */
    private int obeyPad() {
        int done = 0;
        char order = Game.PASS;
        int number = 0;
        for (int index = 0; index <= pad.length; index++) {
            char sign = pad.signAt(index);
            if (sign == Pad.END_OF_ORDER) {
                if (game.obey(order, number) < 0) {
                    return done;
                }
                done++;
                number = 0;
            } else if (Pad.isDigit(sign)) {
                number = 10 * number + (sign - '0');
            } else {
                order = sign;
            }
        }
        return done;
    }

    // ---- undo, saving

    public int undo() {
        return history.goBack(game);
    }

    public int save(int slot) {
        if (!isSlot(slot)) {
            return BAD_VALUE;
        }
        slotOf(slot).fill(game);
        return game.cloth.cellsLeft();
    }

    public int restore(int slot) {
        if (!isSlot(slot)) {
            return BAD_VALUE;
        }
        Slot chosen = slotOf(slot);
        if (!chosen.full) {
            return NOT_POSSIBLE;
        }
        history.note(game);
        history.keepNoted();
        game.become(chosen.saved);
        return game.cloth.cellsLeft();
    }

    private static boolean isSlot(int slot) {
        return slot == 0 || slot == 1;
    }

    private Slot slotOf(int slot) {
        return slot == 0 ? slotZero : slotOne;
    }

    /** All that undo and the slots keep: the cloth, both players, and whose turn it is. */
    private static final class Game {
        static final char CHALK = 'c', SNIP = 's', SEW = 'w', BLUFF = 'b', DOUBT = 'd', PASS = 'p';

        private static final int LAST_TURN = 200;
        private static final int FEWEST_CELLS = 13;
        private static final int FOUND_BY_OTHER = 3;
        private static final int FOUND_OWN = 1;
        private static final int DOUBT_STAKE = 2;

        final Cloth cloth;
        final Tailor tailorZero;
        final Tailor tailorOne;
        int next;
        int turns;

        Game() {
            cloth = new Cloth();
            tailorZero = new Tailor();
            tailorOne = new Tailor();
        }

        void become(Game other) {
            cloth.become(other.cloth);
            tailorZero.become(other.tailorZero);
            tailorOne.become(other.tailorOne);
            next = other.next;
            turns = other.turns;
        }

        static boolean isPlayer(int player) {
            return player == 0 || player == 1;
        }

        Tailor tailorOf(int player) {
            return player == 0 ? tailorZero : tailorOne;
        }

        boolean isOver() {
            return turns >= LAST_TURN || cloth.cellsLeft() < FEWEST_CELLS;
        }

        int winner() {
            if (!isOver()) {
                return NONE;
            }
            if (tailorZero.points == tailorOne.points) {
                return 2;
            }
            return tailorZero.points > tailorOne.points ? 0 : 1;
        }

        int chalkersOf(int joint) {
            return (tailorZero.hasMark(joint) ? 1 : 0) | (tailorOne.hasMark(joint) ? 2 : 0);
        }

        int doubtableMaker(int joint) {
            return isOver() || cloth.isVoid(joint) ? NONE : cloth.makerOf(joint);
        }

        int whyNoSnip(int joint) {
            if (isOver()) {
                return 1;
            }
            if (cloth.isVoid(joint)) {
                return 2;
            }
            return cloth.stateOf(joint) == Cloth.CUT ? 3 : 0;
        }

        /** Does what an order says, and answers as the method of that order does. */
        int obey(char order, int joint) {
            if (order == PASS) {
                return passOn();
            }
            if (!Cloth.isJoint(joint)) {
                return NO_SUCH;
            }
            if (isOver() || cloth.isVoid(joint)) {
                return NOT_POSSIBLE;
            }
            switch (order) {
                case CHALK: return markJoint(joint);
                case SNIP: return snipJoint(joint);
                case SEW: return sewJoint(joint);
                case BLUFF: return bluffJoint(joint);
                case DOUBT: return doubtJoint(joint);
                default: return NOT_POSSIBLE;
            }
        }

        private void endTurn() {
            turns++;
            next = 1 - next;
        }

        private int passOn() {
            if (isOver()) {
                return NOT_POSSIBLE;
            }
            endTurn();
            return next;
        }

        private int markJoint(int joint) {
            Tailor tailor = tailorOf(next);
            if (!cloth.holds(joint) || tailor.hasMark(joint)) {
                return NOT_POSSIBLE;
            }
            if (!tailor.addMark(joint)) {
                return TOO_MANY;
            }
            endTurn();
            return tailor.marks;
        }

        private int snipJoint(int joint) {
            if (whyNoSnip(joint) != 0) {
                return NOT_POSSIBLE;
            }
            findChalk(joint);
            long rag = cloth.ragOf(joint);
            cloth.make(joint, Cloth.CUT, NONE);
            if (rag != 0) {
                loseRag(rag);
            }
            endTurn();
            return Long.bitCount(rag);
        }

        private void findChalk(int joint) {
            Tailor snipper = tailorOf(next);
            Tailor other = tailorOf(1 - next);
            if (other.hasMark(joint)) {
                snipper.points -= FOUND_BY_OTHER;
                snipper.found++;
            }
            if (snipper.hasMark(joint)) {
                snipper.points += FOUND_OWN;
            }
            dropMarks(joint);
        }

        private void dropMarks(int joint) {
            tailorZero.dropMark(joint);
            tailorOne.dropMark(joint);
        }

        private void loseRag(long rag) {
            cloth.tearOff(rag);
            tailorOf(next).winRag(Long.bitCount(rag));
            for (int joint = 0; joint < Cloth.JOINTS; joint++) {
                if (cloth.isVoid(joint)) {
                    dropMarks(joint);
                }
            }
        }

        private int sewJoint(int joint) {
            Tailor tailor = tailorOf(next);
            if (cloth.stateOf(joint) != Cloth.CUT || tailor.threads == 0) {
                return NOT_POSSIBLE;
            }
            tailor.threads--;
            cloth.make(joint, Cloth.SEWN, next);
            endTurn();
            return tailor.threads;
        }

        private int bluffJoint(int joint) {
            if (cloth.stateOf(joint) != Cloth.CUT) {
                return NOT_POSSIBLE;
            }
            cloth.make(joint, Cloth.BLUFFED, next);
            endTurn();
            return cloth.jointsThatAre(Cloth.BLUFFED);
        }

        private int doubtJoint(int joint) {
            if (cloth.makerOf(joint) != 1 - next) {
                return NOT_POSSIBLE;
            }
            boolean bluffed = cloth.stateOf(joint) == Cloth.BLUFFED;
            Tailor doubter = tailorOf(next);
            if (bluffed) {
                doubter.points += DOUBT_STAKE;
                doubter.rightDoubts++;
            } else {
                doubter.points -= DOUBT_STAKE;
                doubter.wrongDoubts++;
            }
            // With no maker a seam cannot be doubted a second time.
            cloth.make(joint, bluffed ? Cloth.CUT : Cloth.SEWN, NONE);
            endTurn();
            return bluffed ? 1 : 0;
        }

        /** The points of a snip that its snipper can foresee: the other one's chalk is hidden. */
        int openGain(int joint) {
            int own = tailorOf(next).hasMark(joint) ? FOUND_OWN : 0;
            return Long.bitCount(cloth.ragOf(joint)) + own;
        }

        int bestJoint() {
            int best = NONE;
            int most = -1;
            for (int joint = 0; joint < Cloth.JOINTS; joint++) {
                int gain = whyNoSnip(joint) == 0 ? openGain(joint) : -1;
                if (gain > most) {
                    most = gain;
                    best = joint;
                }
            }
            return best;
        }
    }

    /** What one player has. */
    private static final class Tailor {
        private static final int MOST_MARKS = 8;
        private static final int THREADS_AT_FIRST = 5;

        /** The joints with this player's chalk, in the order in which they were chalked. */
        private final int[] marked;
        int marks;
        int points;
        int threads;
        int rags;
        int ragCells;
        int found;
        int rightDoubts;
        int wrongDoubts;

        Tailor() {
            marked = new int[MOST_MARKS];
            threads = THREADS_AT_FIRST;
        }

        void become(Tailor other) {
            for (int rank = 0; rank < MOST_MARKS; rank++) {
                marked[rank] = other.marked[rank];
            }
            marks = other.marks;
            points = other.points;
            threads = other.threads;
            rags = other.rags;
            ragCells = other.ragCells;
            found = other.found;
            rightDoubts = other.rightDoubts;
            wrongDoubts = other.wrongDoubts;
        }

        boolean hasMark(int joint) {
            for (int rank = 0; rank < marks; rank++) {
                if (marked[rank] == joint) {
                    return true;
                }
            }
            return false;
        }

        int markAt(int rank) {
            return rank >= 0 && rank < marks ? marked[rank] : NO_SUCH;
        }

        boolean addMark(int joint) {
            if (marks >= MOST_MARKS) {
                return false;
            }
            marked[marks] = joint;
            marks++;
            return true;
        }

        void dropMark(int joint) {
            int kept = 0;
            for (int rank = 0; rank < marks; rank++) {
                if (marked[rank] != joint) {
                    marked[kept] = marked[rank];
                    kept++;
                }
            }
            marks = kept;
        }

        void winRag(int cells) {
            rags++;
            ragCells += cells;
            points += cells;
        }
    }

    /**
     * The cells and their joints. A set of cells is a long with a bit for each cell; a set of joints
     * of one direction is a set of their first cells, so that a piece spreads by shifts.
     */
    private static final class Cloth {
        static final int WHOLE = 0, CUT = 1, SEWN = 2, BLUFFED = 3;
        static final int JOINTS = 82;

        private static final int COLUMNS = 8;
        private static final int CELLS = 48;
        private static final int JOINTS_IN_ROW = 7;
        private static final int FIRST_DOWN = 42;
        private static final int GREATEST_RAG = 12;

        private final int[] states;
        private final int[] makers;
        private long gone;

        /** The joints that hold, to the right and below. */
        private long heldAcross;
        private long heldDown;

        Cloth() {
            states = new int[JOINTS];
            makers = new int[JOINTS];
            for (int joint = 0; joint < JOINTS; joint++) {
                make(joint, WHOLE, NONE);
            }
        }

        void become(Cloth other) {
            for (int joint = 0; joint < JOINTS; joint++) {
                states[joint] = other.states[joint];
                makers[joint] = other.makers[joint];
            }
            gone = other.gone;
            heldAcross = other.heldAcross;
            heldDown = other.heldDown;
        }

        static boolean isJoint(int joint) {
            return joint >= 0 && joint < JOINTS;
        }

        static boolean isCell(int cell) {
            return cell >= 0 && cell < CELLS;
        }

        private static boolean isDown(int joint) {
            return joint >= FIRST_DOWN;
        }

        static int firstCell(int joint) {
            if (joint >= FIRST_DOWN) {
                return joint - FIRST_DOWN;
            }
            return COLUMNS * (joint / JOINTS_IN_ROW) + joint % JOINTS_IN_ROW;
        }

        static int secondCell(int joint) {
            return firstCell(joint) + (isDown(joint) ? COLUMNS : 1);
        }

        static boolean has(long cells, int cell) {
            return (cells >>> cell & 1) != 0;
        }

        int stateOf(int joint) {
            return isJoint(joint) ? states[joint] : CUT;
        }

        int makerOf(int joint) {
            return isJoint(joint) ? makers[joint] : NONE;
        }

        boolean isVoid(int joint) {
            long beside = gone >>> (isDown(joint) ? COLUMNS : 1);
            return has(gone | beside, firstCell(joint));
        }

        boolean holds(int joint) {
            return has(isDown(joint) ? heldDown : heldAcross, firstCell(joint));
        }

        boolean isGone(int cell) {
            return has(gone, cell);
        }

        int cellsLeft() {
            return CELLS - Long.bitCount(gone);
        }

        void make(int joint, int state, int maker) {
            if (!isJoint(joint)) {
                return;
            }
            states[joint] = state;
            makers[joint] = maker;
            long own = 1L << firstCell(joint);
            long held = state == WHOLE || state == SEWN ? own : 0;
            if (isDown(joint)) {
                heldDown = heldDown & ~own | held;
            } else {
                heldAcross = heldAcross & ~own | held;
            }
        }

        void tearOff(long rag) {
            gone |= rag;
            heldAcross &= ~(gone | gone >>> 1);
            heldDown &= ~(gone | gone >>> COLUMNS);
        }

        int jointsThatAre(int state) {
            int many = 0;
            for (int joint = 0; joint < JOINTS; joint++) {
                if (states[joint] == state && !isVoid(joint)) {
                    many++;
                }
            }
            return many;
        }

        int holdsOn(int cell) {
            int many = 0;
            for (int joint = 0; joint < JOINTS; joint++) {
                if (holds(joint) && (firstCell(joint) == cell || secondCell(joint) == cell)) {
                    many++;
                }
            }
            return many;
        }

        /** No cell at all if the cell is gone. */
        long pieceOf(int cell) {
            return isGone(cell) ? 0 : spread(cell, heldAcross, heldDown);
        }

        long pieceIfBluffedHeld(int cell) {
            long across = heldAcross;
            long down = heldDown;
            for (int joint = 0; joint < JOINTS; joint++) {
                if (states[joint] == BLUFFED && !isVoid(joint)) {
                    long own = 1L << firstCell(joint);
                    if (isDown(joint)) {
                        down |= own;
                    } else {
                        across |= own;
                    }
                }
            }
            return spread(cell, across, down);
        }

        int lowestOfPiece(int cell) {
            long piece = pieceOf(cell);
            for (int lowest = 0; lowest < CELLS; lowest++) {
                if (has(piece, lowest)) {
                    return lowest;
                }
            }
            return NONE;
        }

        int pieces() {
            long seen = gone;
            int many = 0;
            for (int cell = 0; cell < CELLS; cell++) {
                if (!has(seen, cell)) {
                    seen |= pieceOf(cell);
                    many++;
                }
            }
            return many;
        }

        /**
         * The cells that fall off if the joint is snipped. A bluffed joint did not hold before that
         * either: what counts is only that its cells do not hang together behind the snip.
         */
        long ragOf(int joint) {
            long own = 1L << firstCell(joint);
            long across = isDown(joint) ? heldAcross : heldAcross & ~own;
            long down = isDown(joint) ? heldDown & ~own : heldDown;
            long near = spread(firstCell(joint), across, down);
            if (has(near, secondCell(joint))) {
                return 0;
            }
            long far = spread(secondCell(joint), across, down);
            long rag = Long.bitCount(near) < Long.bitCount(far) ? near : far;
            return Long.bitCount(rag) <= GREATEST_RAG ? rag : 0;
        }

        int weakJoints() {
            int many = 0;
            for (int joint = 0; joint < JOINTS; joint++) {
                if (holds(joint) && ragOf(joint) != 0) {
                    many++;
                }
            }
            return many;
        }

        /** Each step but the last reaches at least one more cell, so as many steps as cells are enough. */
        private static long spread(int cell, long across, long down) {
            long piece = 1L << cell;
            for (int step = 0; step < CELLS; step++) {
                long sideways = (piece & across) << 1 | piece >>> 1 & across;
                long upright = (piece & down) << COLUMNS | piece >>> COLUMNS & down;
                long wider = piece | sideways | upright;
                if (wider == piece) {
                    return piece;
                }
                piece = wider;
            }
            return piece;
        }
    }

    /** The states that undo goes back to, the oldest one first. */
    private static final class History {
        private static final int MOST = 6;

        private final Game[] states;
        int kept;

        /** A change is noted before it is known to succeed. */
        private Game noted;

        History() {
            states = new Game[MOST];
            for (int index = 0; index < MOST; index++) {
                states[index] = new Game();
            }
            noted = new Game();
        }

        void note(Game game) {
            noted.become(game);
        }

        void keepNoted() {
            if (kept >= MOST) {
                dropOldest();
            }
            Game free = states[kept];
            states[kept] = noted;
            noted = free;
            kept++;
        }

        /** What is dropped stands last then, where the next note finds its place. */
        private void dropOldest() {
            Game dropped = states[0];
            for (int index = 1; index < MOST; index++) {
                states[index - 1] = states[index];
            }
            states[MOST - 1] = dropped;
            kept = MOST - 1;
        }

        int goBack(Game game) {
            if (kept <= 0) {
                return NOT_POSSIBLE;
            }
            kept--;
            game.become(states[kept]);
            return kept;
        }
    }

    /** A place for a saved state. */
    private static final class Slot {
        final Game saved;
        boolean full;

        Slot() {
            saved = new Game();
        }

        void fill(Game game) {
            saved.become(game);
            full = true;
        }
    }

    /** The text of orders. */
    private static final class Pad {
        static final char END_OF_ORDER = ';';

        private static final int MOST = 80;
        private static final int LOWEST_CODE = 33;
        private static final int HIGHEST_CODE = 126;

        /** What may stand next while the text is read. */
        private static final int ORDER = 0, NUMBER = 1, DIGIT_OR_END = 2, END = 3, NOTHING = 4;

        private final char[] signs;
        int length;

        Pad() {
            signs = new char[MOST];
        }

        int append(long characters) {
            int many = charactersIn(characters);
            if (many == 0) {
                return BAD_VALUE;
            }
            if (many > MOST - length) {
                return TOO_MANY;
            }
            for (int left = many - 1; left >= 0; left--) {
                signs[length] = (char) (characters >>> 8 * left & 255);
                length++;
            }
            return length;
        }

        /** How many characters the number gives, 0 if it is not one that may be given. */
        private static int charactersIn(long characters) {
            int many = 0;
            for (long rest = characters; rest != 0 && many < 8; rest >>>= 8) {
                long code = rest & 255;
                if (code < LOWEST_CODE || code > HIGHEST_CODE) {
                    return 0;
                }
                many++;
            }
            return many;
        }

        int clear() {
            int before = length;
            length = 0;
            return before;
        }

        /** Behind the text stands the end of its last order. */
        char signAt(int index) {
            return index >= 0 && index < length ? signs[index] : END_OF_ORDER;
        }

        static boolean isDigit(char sign) {
            return sign >= '0' && sign <= '9';
        }

        int firstFault() {
            int place = ORDER;
            for (int index = 0; index < length; index++) {
                place = placeBehind(place, signs[index]);
                if (place == NOTHING) {
                    return index;
                }
            }
            return place == DIGIT_OR_END || place == END ? NONE : length;
        }

        private static int placeBehind(int place, char sign) {
            if (place == ORDER) {
                return placeBehindOrder(sign);
            }
            if (place == NUMBER && isDigit(sign)) {
                return sign == '0' ? END : DIGIT_OR_END;
            }
            if (place == DIGIT_OR_END && isDigit(sign)) {
                return END;
            }
            boolean mayEnd = place == DIGIT_OR_END || place == END;
            return mayEnd && sign == END_OF_ORDER ? ORDER : NOTHING;
        }

        private static int placeBehindOrder(char sign) {
            switch (sign) {
                case Game.CHALK:
                case Game.SNIP:
                case Game.SEW:
                case Game.BLUFF:
                case Game.DOUBT: return NUMBER;
                case Game.PASS: return END;
                default: return NOTHING;
            }
        }
    }
}
