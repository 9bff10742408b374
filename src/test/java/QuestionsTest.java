/** Promises 8 to 12: what there is. */
public final class QuestionsTest {
    private static final int NO_SUCH = -1, BAD_VALUE = -2, NONE = -6;
    private static final Check CHECK = new Check("QuestionsTest");

    public static void main(String[] args) {
        placesOfJoints();
        jointThatBecomesVoid();
        chalkersAndMakers();
        ofWithWrongInputs();
        pieceOfACell();
        jointsThatHoldACell();
        cellWithWrongInputs();
        playerCounts();
        playerWithWrongInputs();
        chalkedInOrder();
        chalkedWithWrongInputs();
        counts();
        jointsCountedByState();
        piecesApart();
        pieceOfOneCell();
        winner();
        countWithWrongInputs();
        CHECK.end();
    }

    private static void placesOfJoints() {
        TailorChalks x = new TailorChalks();
        for (int row = 0; row < 6; row++) {
            for (int column = 0; column < 8; column++) {
                int cell = 8 * row + column;
                if (column < 7) {
                    place(x, 7 * row + column, cell, cell + 1);
                }
                if (row < 5) {
                    place(x, 42 + 8 * row + column, cell, cell + 8);
                }
            }
        }
    }

    private static void place(TailorChalks x, int joint, int first, int second) {
        CHECK.due("of(" + joint + ", 2)", x.of(joint, 2), first);
        CHECK.due("of(" + joint + ", 3)", x.of(joint, 3), second);
    }

    private static void jointThatBecomesVoid() {
        TailorChalks x = new TailorChalks();
        Play.snipAll(x, 41);
        x.sew(41);
        Play.snipAll(x, 81, 41);
        CHECK.due("cell(47, 0)", x.cell(47, 0), 1);
        CHECK.due("of(41, 0)", x.of(41, 0), 1);
        CHECK.due("of(41, 1)", x.of(41, 1), 1);
        CHECK.due("of(41, 2)", x.of(41, 2), 46);
        CHECK.due("of(41, 3)", x.of(41, 3), 47);
        CHECK.due("of(41, 6)", x.of(41, 6), 0);
        CHECK.due("of(40, 1)", x.of(40, 1), 0);
        CHECK.due("of(40, 6)", x.of(40, 6), 1);
        CHECK.due("of(80, 1)", x.of(80, 1), 0);
        // A joint that is whole, and one that is sewn, become void with their cells.
        x = new TailorChalks();
        Play.snipAll(x, 0);
        x.sew(0);
        Play.snipAll(x, 1, 43, 42);
        CHECK.due("cell(0, 0)", x.cell(0, 0), 1);
        CHECK.due("cell(1, 0)", x.cell(1, 0), 1);
        CHECK.due("of(0, 0)", x.of(0, 0), 2);
        CHECK.due("of(0, 1)", x.of(0, 1), 1);
        CHECK.due("of(0, 5)", x.of(0, 5), NONE);
        CHECK.due("of(0, 6)", x.of(0, 6), 0);
        CHECK.due("count(7)", x.count(7), 0);
    }

    private static void chalkersAndMakers() {
        TailorChalks x = new TailorChalks();
        x.chalk(20);
        CHECK.due("of(20, 4)", x.of(20, 4), 1);
        x.chalk(21);
        CHECK.due("of(21, 4)", x.of(21, 4), 2);
        x.chalk(21);
        CHECK.due("of(21, 4)", x.of(21, 4), 3);
        x.snip(5);
        x.sew(5);
        CHECK.due("of(5, 5)", x.of(5, 5), 0);
        x.snip(6);
        x.pass();
        x.bluff(6);
        CHECK.due("of(6, 5)", x.of(6, 5), 1);
        x.pass();
        CHECK.due("of(6, 5) with the maker next", x.of(6, 5), 1);
    }

    private static void ofWithWrongInputs() {
        TailorChalks x = new TailorChalks();
        int[] noJoints = {-1, 82, Integer.MIN_VALUE, Integer.MAX_VALUE};
        for (int joint : noJoints) {
            for (int what = -1; what <= 7; what++) {
                CHECK.due("of(" + joint + ", " + what + ")", x.of(joint, what), NO_SUCH);
            }
        }
        int[] nothings = {-1, 7, Integer.MIN_VALUE, Integer.MAX_VALUE};
        for (int what : nothings) {
            CHECK.due("of(0, " + what + ")", x.of(0, what), BAD_VALUE);
            CHECK.due("of(81, " + what + ")", x.of(81, what), BAD_VALUE);
        }
    }

    private static void pieceOfACell() {
        TailorChalks x = new TailorChalks();
        Play.snipAll(x, 3, 10, 17, 24, 31, 38);
        CHECK.due("cell(3, 1)", x.cell(3, 1), 24);
        CHECK.due("cell(43, 2)", x.cell(43, 2), 0);
        CHECK.due("cell(4, 1)", x.cell(4, 1), 24);
        CHECK.due("cell(47, 2)", x.cell(47, 2), 4);
        Play.snipAll(x, 6, 49);
        CHECK.due("cell(7, 0)", x.cell(7, 0), 1);
        CHECK.due("cell(7, 1)", x.cell(7, 1), 0);
        CHECK.due("cell(7, 2)", x.cell(7, 2), NONE);
        CHECK.due("cell(7, 3)", x.cell(7, 3), 0);
        CHECK.due("cell(6, 1)", x.cell(6, 1), 23);
        CHECK.due("count(5)", x.count(5), 2);
        x.bluff(3);
        CHECK.due("cell(3, 1) beside a bluff", x.cell(3, 1), 24);
        x.doubt(3);
        x.sew(3);
        CHECK.due("cell(3, 1) beside a seam", x.cell(3, 1), 47);
        CHECK.due("cell(47, 2)", x.cell(47, 2), 0);
    }

    private static void jointsThatHoldACell() {
        TailorChalks x = new TailorChalks();
        CHECK.due("cell(0, 3)", x.cell(0, 3), 2);
        CHECK.due("cell(1, 3)", x.cell(1, 3), 3);
        CHECK.due("cell(9, 3)", x.cell(9, 3), 4);
        CHECK.due("cell(7, 3)", x.cell(7, 3), 2);
        CHECK.due("cell(8, 3)", x.cell(8, 3), 3);
        CHECK.due("cell(47, 3)", x.cell(47, 3), 2);
        Play.snipAll(x, 7, 8, 43, 51);
        CHECK.due("cell(9, 3)", x.cell(9, 3), 0);
        CHECK.due("cell(8, 3) beside a cell that is gone", x.cell(8, 3), 2);
        x = new TailorChalks();
        Play.snipAll(x, 7, 8);
        CHECK.due("cell(9, 3)", x.cell(9, 3), 2);
        x.bluff(7);
        CHECK.due("cell(9, 3) with a bluff", x.cell(9, 3), 2);
        x.sew(8);
        CHECK.due("cell(9, 3) with a seam", x.cell(9, 3), 3);
        Play.snipAll(x, 0, 42);
        CHECK.due("cell(0, 0)", x.cell(0, 0), 1);
        CHECK.due("cell(1, 3) beside a cell that is gone", x.cell(1, 3), 2);
    }

    private static void cellWithWrongInputs() {
        TailorChalks x = new TailorChalks();
        int[] noCells = {-1, 48, Integer.MIN_VALUE, Integer.MAX_VALUE};
        for (int cell : noCells) {
            for (int what = -1; what <= 4; what++) {
                CHECK.due("cell(" + cell + ", " + what + ")", x.cell(cell, what), NO_SUCH);
            }
        }
        int[] nothings = {-1, 4, Integer.MIN_VALUE, Integer.MAX_VALUE};
        for (int what : nothings) {
            CHECK.due("cell(0, " + what + ")", x.cell(0, what), BAD_VALUE);
            CHECK.due("cell(47, " + what + ")", x.cell(47, what), BAD_VALUE);
        }
    }

    private static void playerCounts() {
        TailorChalks x = new TailorChalks();
        x.chalk(0);
        x.chalk(42);
        x.snip(42);
        x.snip(0);
        int[] zero = {497, 5, 0, 0, 0, 1, 0, 0};
        int[] one = {498, 5, 0, 1, 1, 1, 0, 0};
        players(x, zero, one);
        Play.snipAll(x, 20);
        x.bluff(20);
        x.doubt(20);
        x.sew(20);
        x.doubt(20);
        x.chalk(20);
        int[] zeroThen = {497, 5, 0, 0, 0, 1, 1, 1};
        int[] oneThen = {498, 4, 1, 1, 1, 1, 0, 0};
        players(x, zeroThen, oneThen);
        Play.snipAll(x, 6, 49, 34, 74, 35, 81, 41);
        CHECK.due("cell(47, 0)", x.cell(47, 0), 1);
        CHECK.due("player(0, 3)", x.player(0, 3), 2);
        CHECK.due("player(0, 4)", x.player(0, 4), 2);
        CHECK.due("player(1, 3)", x.player(1, 3), 2);
        CHECK.due("player(1, 4)", x.player(1, 4), 2);
    }

    private static void players(TailorChalks x, int[] zero, int[] one) {
        for (int what = 0; what < 8; what++) {
            CHECK.due("player(0, " + what + ")", x.player(0, what), zero[what]);
            CHECK.due("player(1, " + what + ")", x.player(1, what), one[what]);
        }
    }

    private static void playerWithWrongInputs() {
        TailorChalks x = new TailorChalks();
        int[] noPlayers = {-1, 2, Integer.MIN_VALUE, Integer.MAX_VALUE};
        for (int player : noPlayers) {
            for (int what = -1; what <= 8; what++) {
                CHECK.due("player(" + player + ", " + what + ")", x.player(player, what), NO_SUCH);
            }
        }
        int[] nothings = {-1, 8, Integer.MIN_VALUE, Integer.MAX_VALUE};
        for (int what : nothings) {
            CHECK.due("player(0, " + what + ")", x.player(0, what), BAD_VALUE);
            CHECK.due("player(1, " + what + ")", x.player(1, what), BAD_VALUE);
        }
    }

    private static void chalkedInOrder() {
        TailorChalks x = new TailorChalks();
        int[] joints = {30, 2, 81, 15, 44};
        for (int joint : joints) {
            x.chalk(joint);
            x.pass();
        }
        x.snip(81);
        int[] left = {30, 2, 15, 44};
        for (int rank = 0; rank < left.length; rank++) {
            CHECK.due("chalked(0, " + rank + ")", x.chalked(0, rank), left[rank]);
        }
        CHECK.due("chalked(0, 4)", x.chalked(0, 4), NO_SUCH);
        x.pass();
        x.pass();
        x.chalk(0);
        CHECK.due("chalked(1, 0)", x.chalked(1, 0), 0);
        x.snip(30);
        x.pass();
        x.snip(44);
        x.pass();
        CHECK.due("chalked(0, 0)", x.chalked(0, 0), 2);
        CHECK.due("chalked(0, 1)", x.chalked(0, 1), 15);
        CHECK.due("chalked(0, 2)", x.chalked(0, 2), NO_SUCH);
        x.chalk(43);
        CHECK.due("chalked(0, 2)", x.chalked(0, 2), 43);
    }

    private static void chalkedWithWrongInputs() {
        TailorChalks x = new TailorChalks();
        x.chalk(5);
        int[] numbers = {-1, 2, Integer.MIN_VALUE, Integer.MAX_VALUE};
        for (int number : numbers) {
            CHECK.due("chalked(" + number + ", 0)", x.chalked(number, 0), NO_SUCH);
            CHECK.due("chalked(0, " + number + ")", x.chalked(0, number), NO_SUCH);
            CHECK.due("chalked(1, " + number + ")", x.chalked(1, number), NO_SUCH);
        }
        CHECK.due("chalked(0, 0)", x.chalked(0, 0), 5);
        CHECK.due("chalked(0, 1)", x.chalked(0, 1), NO_SUCH);
        CHECK.due("chalked(1, 0)", x.chalked(1, 0), NO_SUCH);
    }

    private static void counts() {
        TailorChalks x = Play.twelveByTwentyFour();
        Play.type(x, "c1;p");
        // Of the 11 joints that were cut, 7 are void.
        int[] due = {11, 1, 0, NONE, 36, 2, 4, 0, 0, 4, 6};
        for (int what = 0; what < due.length; what++) {
            CHECK.due("count(" + what + ")", x.count(what), due[what]);
        }
    }

    private static void jointsCountedByState() {
        TailorChalks x = new TailorChalks();
        Play.snipAll(x, 0, 6, 20, 21, 22, 23);
        x.sew(0);
        x.bluff(6);
        x.sew(20);
        x.bluff(21);
        CHECK.due("count(6)", x.count(6), 2);
        CHECK.due("count(7)", x.count(7), 2);
        CHECK.due("count(8)", x.count(8), 2);
        // The cell 7 falls off, and the bluff 6 is void.
        x.snip(49);
        CHECK.due("count(4)", x.count(4), 47);
        CHECK.due("count(6)", x.count(6), 2);
        CHECK.due("count(8)", x.count(8), 1);
        x.snip(42);
        CHECK.due("count(6)", x.count(6), 3);
        // The cells 0 and 1 fall off by a snip that does not touch the seam.
        x.snip(43);
        x.snip(1);
        CHECK.due("count(4)", x.count(4), 45);
        CHECK.due("count(6)", x.count(6), 2);
        CHECK.due("count(7)", x.count(7), 1);
        CHECK.due("count(8)", x.count(8), 1);
        CHECK.due("count(5)", x.count(5), 1);
    }

    private static void piecesApart() {
        TailorChalks x = new TailorChalks();
        // The row 5 falls off, then the row 0; the rows 1 and 2 and the rows 3 and 4 stay apart.
        Play.snipBelowRow(x, 4);
        Play.snipBelowRow(x, 0);
        CHECK.due("count(5)", x.count(5), 1);
        Play.snipBelowRow(x, 2);
        CHECK.due("count(4)", x.count(4), 32);
        CHECK.due("count(5)", x.count(5), 2);
        CHECK.due("cell(8, 1)", x.cell(8, 1), 16);
        CHECK.due("cell(39, 2)", x.cell(39, 2), 24);
    }

    private static void pieceOfOneCell() {
        TailorChalks x = Play.twelveByTwentyFour();
        Play.snipAll(x, 1, 8, 15);
        CHECK.due("cell(0, 1)", x.cell(0, 1), 6);
        Play.snipAll(x, 0, 7, 14);
        CHECK.due("cell(0, 1)", x.cell(0, 1), 3);
        Play.snipAll(x, 50, 42);
        CHECK.due("cell(0, 0)", x.cell(0, 0), 0);
        CHECK.due("cell(0, 1)", x.cell(0, 1), 1);
        CHECK.due("cell(0, 2)", x.cell(0, 2), 0);
        CHECK.due("cell(0, 3)", x.cell(0, 3), 0);
        CHECK.due("count(4)", x.count(4), 25);
        CHECK.due("count(5)", x.count(5), 2);
    }

    private static void winner() {
        TailorChalks x = Play.overByTurns();
        CHECK.due("count(2)", x.count(2), 1);
        CHECK.due("count(3) of two as good", x.count(3), 2);
        x = Play.overByCells();
        CHECK.due("count(2)", x.count(2), 1);
        CHECK.due("count(3)", x.count(3), 1);
        CHECK.due("player(1, 0)", x.player(1, 0), 524);
        CHECK.due("player(0, 0)", x.player(0, 0), 512);
        x.undo();
        CHECK.due("count(2)", x.count(2), 0);
        CHECK.due("count(3)", x.count(3), NONE);
        x = new TailorChalks();
        x.chalk(9);
        x.pass();
        x.snip(9);
        CHECK.due("count(3)", x.count(3), NONE);
        Play.pass(x, 197);
        CHECK.due("count(3)", x.count(3), 0);
    }

    private static void countWithWrongInputs() {
        TailorChalks x = new TailorChalks();
        int[] nothings = {-1, 11, Integer.MIN_VALUE, Integer.MAX_VALUE};
        for (int what : nothings) {
            CHECK.due("count(" + what + ")", x.count(what), BAD_VALUE);
        }
    }
}
