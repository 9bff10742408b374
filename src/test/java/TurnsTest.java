/** Promises 1 to 7: a new object and the turns. */
public final class TurnsTest {
    private static final int NO_SUCH = -1, TOO_MANY = -4, NOT_POSSIBLE = -5, NONE = -6;
    private static final int[] NO_JOINTS = {-1, 82, Integer.MIN_VALUE, Integer.MAX_VALUE};
    private static final Check CHECK = new Check("TurnsTest");

    public static void main(String[] args) {
        newObject();
        newObjectsAreApart();
        chalk();
        chalkIsOnlyOnJointsThatHold();
        chalkIsOfOnePlayer();
        mostChalk();
        snip();
        snipFindsChalk();
        ragTakesChalkAlong();
        ragTakesTheChalkOfTheFirstJoint();
        greatestRag();
        smallerPieceFallsOff();
        ofTwoAsGreatTheSecondFallsOff();
        snipOfABluffedJoint();
        snipOfASewnJoint();
        sew();
        sewnPiecesHangTogether();
        bluff();
        doubt();
        doubtEndsWithANewSeam();
        pass();
        wrongJoints();
        nothingWhenOver();
        overWithFewerThanThirteenCells();
        errorsChangeNothing();
        CHECK.end();
    }

    private static void newObject() {
        TailorChalks x = new TailorChalks();
        for (int joint = 0; joint < 82; joint++) {
            CHECK.due("of(" + joint + ", 0)", x.of(joint, 0), 0);
            CHECK.due("of(" + joint + ", 1)", x.of(joint, 1), 0);
            CHECK.due("of(" + joint + ", 4)", x.of(joint, 4), 0);
            CHECK.due("of(" + joint + ", 5)", x.of(joint, 5), NONE);
            CHECK.due("of(" + joint + ", 6)", x.of(joint, 6), 1);
        }
        x = new TailorChalks();
        for (int cell = 0; cell < 48; cell++) {
            CHECK.due("cell(" + cell + ", 0)", x.cell(cell, 0), 0);
            CHECK.due("cell(" + cell + ", 1)", x.cell(cell, 1), 48);
            CHECK.due("cell(" + cell + ", 2)", x.cell(cell, 2), 0);
        }
        int[] playerAtFirst = {500, 5, 0, 0, 0, 0, 0, 0};
        for (int player = 0; player <= 1; player++) {
            for (int what = 0; what < 8; what++) {
                CHECK.due("player(" + player + ", " + what + ")", x.player(player, what), playerAtFirst[what]);
            }
            CHECK.due("chalked", x.chalked(player, 0), NO_SUCH);
        }
        int[] countAtFirst = {0, 0, 0, NONE, 48, 1, 0, 0, 0, 0, 0};
        for (int what = 0; what < 11; what++) {
            CHECK.due("count(" + what + ")", x.count(what), countAtFirst[what]);
        }
        CHECK.due("fault()", x.fault(), 0);
        CHECK.due("undo()", x.undo(), NOT_POSSIBLE);
        CHECK.due("restore(0)", x.restore(0), NOT_POSSIBLE);
        CHECK.due("restore(1)", x.restore(1), NOT_POSSIBLE);
    }

    private static void newObjectsAreApart() {
        TailorChalks x = new TailorChalks();
        TailorChalks y = new TailorChalks();
        x.snip(5);
        Play.type(x, "c1");
        x.save(0);
        CHECK.due("of(5, 0) of another", y.of(5, 0), 0);
        CHECK.due("count(0) of another", y.count(0), 0);
        CHECK.due("count(9) of another", y.count(9), 0);
        CHECK.due("undo() of another", y.undo(), NOT_POSSIBLE);
        CHECK.due("restore(0) of another", y.restore(0), NOT_POSSIBLE);
    }

    private static void chalk() {
        TailorChalks x = new TailorChalks();
        CHECK.due("chalk(0)", x.chalk(0), 1);
        CHECK.due("count(0)", x.count(0), 1);
        CHECK.due("count(1)", x.count(1), 1);
        CHECK.due("of(0, 4)", x.of(0, 4), 1);
        CHECK.due("player(0, 2)", x.player(0, 2), 1);
        CHECK.due("chalk(81)", x.chalk(81), 1);
        CHECK.due("of(81, 4)", x.of(81, 4), 2);
        CHECK.due("count(1)", x.count(1), 0);
        CHECK.due("chalk(81)", x.chalk(81), 2);
        CHECK.due("of(81, 4)", x.of(81, 4), 3);
        CHECK.due("chalk(81) again", x.chalk(81), NOT_POSSIBLE);
        CHECK.due("count(1)", x.count(1), 1);
        CHECK.due("count(0)", x.count(0), 3);
        CHECK.due("of(81, 0)", x.of(81, 0), 0);
        CHECK.due("player(0, 0)", x.player(0, 0), 500);
    }

    private static void chalkIsOnlyOnJointsThatHold() {
        TailorChalks x = new TailorChalks();
        x.snip(9);
        CHECK.due("chalk(9) if cut", x.chalk(9), NOT_POSSIBLE);
        x.bluff(9);
        CHECK.due("chalk(9) if bluffed", x.chalk(9), NOT_POSSIBLE);
        x.doubt(9);
        x.sew(9);
        CHECK.due("chalk(9) if sewn", x.chalk(9), 1);
        Play.snipAll(x, 0, 42);
        CHECK.due("cell(0, 0)", x.cell(0, 0), 1);
        CHECK.due("chalk(0) if void", x.chalk(0), NOT_POSSIBLE);
    }

    private static void chalkIsOfOnePlayer() {
        TailorChalks x = new TailorChalks();
        int[] joints = {7, 3, 81, 0};
        for (int joint : joints) {
            x.chalk(joint);
            x.pass();
        }
        for (int rank = 0; rank < 4; rank++) {
            CHECK.due("chalked(0, " + rank + ")", x.chalked(0, rank), joints[rank]);
        }
        CHECK.due("chalked(1, 0)", x.chalked(1, 0), NO_SUCH);
    }

    private static void mostChalk() {
        TailorChalks x = new TailorChalks();
        for (int joint = 0; joint < 8; joint++) {
            CHECK.due("chalk(" + joint + ")", x.chalk(joint), joint + 1);
            CHECK.due("pass()", x.pass(), 0);
        }
        CHECK.due("chalk(7) with 8", x.chalk(7), NOT_POSSIBLE);
        CHECK.due("chalk(8) with 8", x.chalk(8), TOO_MANY);
        CHECK.due("chalk(82) with 8", x.chalk(82), NO_SUCH);
        CHECK.due("player(0, 2)", x.player(0, 2), 8);
        CHECK.due("count(1)", x.count(1), 0);
        CHECK.due("snip(3)", x.snip(3), 0);
        CHECK.due("chalk(3) of player 1", x.chalk(3), NOT_POSSIBLE);
        CHECK.due("chalk(8) of player 1", x.chalk(8), 1);
        CHECK.due("chalk(8)", x.chalk(8), 8);
        CHECK.due("chalked(0, 3)", x.chalked(0, 3), 4);
        CHECK.due("chalked(0, 7)", x.chalked(0, 7), 8);
    }

    private static void snip() {
        TailorChalks x = new TailorChalks();
        CHECK.due("snip(0)", x.snip(0), 0);
        CHECK.due("of(0, 0)", x.of(0, 0), 1);
        CHECK.due("of(0, 6)", x.of(0, 6), 0);
        CHECK.due("count(1)", x.count(1), 1);
        CHECK.due("snip(0) again", x.snip(0), NOT_POSSIBLE);
        CHECK.due("snip(42)", x.snip(42), 1);
        CHECK.due("cell(0, 0)", x.cell(0, 0), 1);
        CHECK.due("of(0, 0) if void", x.of(0, 0), 1);
        CHECK.due("of(0, 1)", x.of(0, 1), 1);
        CHECK.due("of(42, 1)", x.of(42, 1), 1);
        CHECK.due("of(1, 1)", x.of(1, 1), 0);
        CHECK.due("snip(0) if void", x.snip(0), NOT_POSSIBLE);
        CHECK.due("player(1, 0)", x.player(1, 0), 501);
        CHECK.due("player(1, 3)", x.player(1, 3), 1);
        CHECK.due("player(1, 4)", x.player(1, 4), 1);
        CHECK.due("player(0, 0)", x.player(0, 0), 500);
        CHECK.due("count(4)", x.count(4), 47);
    }

    private static void snipFindsChalk() {
        TailorChalks x = new TailorChalks();
        x.chalk(10);
        CHECK.due("snip(10) of the other's chalk", x.snip(10), 0);
        CHECK.due("player(1, 0)", x.player(1, 0), 497);
        CHECK.due("player(1, 5)", x.player(1, 5), 1);
        CHECK.due("player(0, 2)", x.player(0, 2), 0);
        CHECK.due("of(10, 4)", x.of(10, 4), 0);
        x.chalk(11);
        x.pass();
        CHECK.due("snip(11) of own chalk", x.snip(11), 0);
        CHECK.due("player(0, 0)", x.player(0, 0), 501);
        CHECK.due("player(0, 5)", x.player(0, 5), 0);
        x.chalk(12);
        x.chalk(12);
        CHECK.due("snip(12) of both", x.snip(12), 0);
        CHECK.due("player(1, 0)", x.player(1, 0), 495);
        CHECK.due("player(1, 5)", x.player(1, 5), 2);
        CHECK.due("player(0, 0)", x.player(0, 0), 501);
        CHECK.due("of(12, 4)", x.of(12, 4), 0);
        CHECK.due("player(0, 2)", x.player(0, 2), 0);
        CHECK.due("player(1, 2)", x.player(1, 2), 0);
    }

    private static void ragTakesChalkAlong() {
        TailorChalks x = new TailorChalks();
        int[] chalked = {4, 5, 6, 48, 49};
        for (int joint : chalked) {
            x.chalk(joint);
            x.chalk(joint);
        }
        // The cells 6 and 7 fall off: the joints 5, 6, 48 and 49 become void.
        Play.snipAll(x, 5, 48, 49);
        CHECK.due("cell(6, 0)", x.cell(6, 0), 1);
        CHECK.due("cell(7, 0)", x.cell(7, 0), 1);
        CHECK.due("cell(5, 0)", x.cell(5, 0), 0);
        for (int player = 0; player <= 1; player++) {
            CHECK.due("player(" + player + ", 2)", x.player(player, 2), 1);
            CHECK.due("chalked(" + player + ", 0)", x.chalked(player, 0), 4);
            CHECK.due("chalked(" + player + ", 1)", x.chalked(player, 1), NO_SUCH);
        }
        CHECK.due("of(6, 4)", x.of(6, 4), 0);
        CHECK.due("of(6, 0)", x.of(6, 0), 0);
        CHECK.due("of(6, 6)", x.of(6, 6), 0);
        CHECK.due("player(0, 0)", x.player(0, 0), 500 - 2 - 2 + 2);
        CHECK.due("player(0, 5)", x.player(0, 5), 2);
        CHECK.due("player(1, 0)", x.player(1, 0), 500 - 2);
        CHECK.due("player(0, 4)", x.player(0, 4), 2);
    }

    private static void ragTakesTheChalkOfTheFirstJoint() {
        TailorChalks x = new TailorChalks();
        x.chalk(0);
        x.chalk(0);
        Play.snipAll(x, 1, 42, 43);
        CHECK.due("cell(0, 0)", x.cell(0, 0), 1);
        CHECK.due("cell(1, 0)", x.cell(1, 0), 1);
        CHECK.due("chalked(0, 0)", x.chalked(0, 0), NO_SUCH);
        CHECK.due("chalked(1, 0)", x.chalked(1, 0), NO_SUCH);
    }

    private static void greatestRag() {
        TailorChalks x = new TailorChalks();
        // The row 0 and the cells 8 to 11: 12 cells.
        Play.snipAll(x, 46, 47, 48, 49, 10, 50, 51, 52);
        CHECK.due("snip(53) with 12 cells", x.snip(53), 12);
        CHECK.due("count(4)", x.count(4), 36);
        CHECK.due("cell(11, 0)", x.cell(11, 0), 1);
        CHECK.due("cell(12, 0)", x.cell(12, 0), 0);
        x = new TailorChalks();
        // The row 0 and the cells 8 to 12: 13 cells.
        Play.snipAll(x, 47, 48, 49, 11, 50, 51, 52, 53);
        CHECK.due("snip(54) with 13 cells", x.snip(54), 0);
        CHECK.due("count(4)", x.count(4), 48);
        CHECK.due("count(5)", x.count(5), 2);
        CHECK.due("cell(0, 1)", x.cell(0, 1), 13);
        CHECK.due("cell(47, 1)", x.cell(47, 1), 35);
        CHECK.due("player(0, 3)", x.player(0, 3), 0);
        CHECK.due("player(0, 0)", x.player(0, 0), 500);
        // What is left of 13 cells falls off only by a snip of its own.
        CHECK.due("snip(0)", x.snip(0), 0);
        CHECK.due("snip(42)", x.snip(42), 1);
        CHECK.due("cell(1, 1)", x.cell(1, 1), 12);
    }

    private static void smallerPieceFallsOff() {
        TailorChalks x = new TailorChalks();
        Play.snipAll(x, 74, 75, 76, 77, 78, 79, 80);
        CHECK.due("snip(81): the second cell's piece", x.snip(81), 8);
        CHECK.due("cell(40, 0)", x.cell(40, 0), 1);
        Play.snipAll(x, 42, 43, 44, 45, 46, 47, 48);
        CHECK.due("snip(49): the first cell's piece", x.snip(49), 8);
        CHECK.due("cell(7, 0)", x.cell(7, 0), 1);
        CHECK.due("cell(15, 0)", x.cell(15, 0), 0);
        CHECK.due("count(4)", x.count(4), 32);
    }

    private static void ofTwoAsGreatTheSecondFallsOff() {
        TailorChalks x = Play.twelveByTwentyFour();
        CHECK.due("count(4)", x.count(4), 36);
        CHECK.due("cell(0, 0)", x.cell(0, 0), 0);
        CHECK.due("cell(0, 1)", x.cell(0, 1), 12);
        CHECK.due("cell(4, 0)", x.cell(4, 0), 1);
        CHECK.due("player(0, 0)", x.player(0, 0), 512);
        CHECK.due("player(0, 4)", x.player(0, 4), 12);
        // The second cell's piece is the one with the lower cells here: the row 0 and 12 to 15.
        x = new TailorChalks();
        Play.snipBelowRow(x, 2);
        Play.snipAll(x, 42, 43, 44, 45, 54, 55, 56, 57);
        CHECK.due("snip(10): 12 of 24", x.snip(10), 12);
        CHECK.due("cell(0, 0)", x.cell(0, 0), 1);
        CHECK.due("cell(12, 0)", x.cell(12, 0), 1);
        CHECK.due("cell(11, 1)", x.cell(11, 1), 12);
        // The same pieces, by a joint to the cell below: now the other one is the second cell's.
        x = new TailorChalks();
        Play.snipBelowRow(x, 2);
        Play.snipAll(x, 42, 43, 44, 10, 54, 55, 56, 57);
        CHECK.due("snip(45): 12 of 24", x.snip(45), 12);
        CHECK.due("cell(11, 0)", x.cell(11, 0), 1);
        CHECK.due("cell(0, 1)", x.cell(0, 1), 12);
    }

    private static void snipOfABluffedJoint() {
        TailorChalks x = Play.twelveByTwentyFour();
        CHECK.due("bluff(58)", x.bluff(58), 1);
        CHECK.due("ifSnipped(58)", x.ifSnipped(58), 12);
        CHECK.due("snip(58)", x.snip(58), 12);
        CHECK.due("cell(0, 0)", x.cell(0, 0), 1);
        CHECK.due("count(4)", x.count(4), 24);
        CHECK.due("player(0, 0)", x.player(0, 0), 524);
        x = new TailorChalks();
        Play.snipAll(x, 20);
        x.bluff(20);
        CHECK.due("snip(20) if bluffed", x.snip(20), 0);
        CHECK.due("of(20, 0)", x.of(20, 0), 1);
        CHECK.due("of(20, 5)", x.of(20, 5), NONE);
        CHECK.due("doubt(20) if snipped anew", x.doubt(20), NOT_POSSIBLE);
    }

    private static void snipOfASewnJoint() {
        TailorChalks x = new TailorChalks();
        Play.snipAll(x, 0);
        x.sew(0);
        x.chalk(0);
        CHECK.due("snip(0) if sewn", x.snip(0), 0);
        CHECK.due("player(1, 0)", x.player(1, 0), 497);
        CHECK.due("of(0, 0)", x.of(0, 0), 1);
        CHECK.due("of(0, 5)", x.of(0, 5), NONE);
        CHECK.due("snip(42)", x.snip(42), 1);
    }

    private static void sew() {
        TailorChalks x = new TailorChalks();
        CHECK.due("sew(0) if whole", x.sew(0), NOT_POSSIBLE);
        Play.snipAll(x, 0, 1, 2, 3, 4, 5);
        for (int joint = 0; joint < 5; joint++) {
            CHECK.due("sew(" + joint + ")", x.sew(joint), 4 - joint);
            CHECK.due("of(" + joint + ", 0)", x.of(joint, 0), 2);
            CHECK.due("of(" + joint + ", 5)", x.of(joint, 5), 0);
            CHECK.due("of(" + joint + ", 6)", x.of(joint, 6), 1);
            CHECK.due("pass()", x.pass(), 0);
        }
        CHECK.due("player(0, 1)", x.player(0, 1), 0);
        CHECK.due("sew(5) without thread", x.sew(5), NOT_POSSIBLE);
        CHECK.due("sew(82) without thread", x.sew(82), NO_SUCH);
        CHECK.due("pass()", x.pass(), 1);
        CHECK.due("sew(5) of player 1", x.sew(5), 4);
        CHECK.due("player(1, 1)", x.player(1, 1), 4);
        CHECK.due("sew(5) if sewn", x.sew(5), NOT_POSSIBLE);
        x = new TailorChalks();
        x.snip(8);
        x.bluff(8);
        CHECK.due("sew(8) if bluffed", x.sew(8), NOT_POSSIBLE);
        Play.snipAll(x, 0, 42);
        CHECK.due("sew(0) if void", x.sew(0), NOT_POSSIBLE);
    }

    private static void sewnPiecesHangTogether() {
        TailorChalks x = new TailorChalks();
        Play.snipBelowRow(x, 2);
        CHECK.due("count(5)", x.count(5), 2);
        CHECK.due("sew(60)", x.sew(60), 4);
        CHECK.due("count(5)", x.count(5), 1);
        CHECK.due("cell(47, 1)", x.cell(47, 1), 48);
        CHECK.due("cell(47, 2)", x.cell(47, 2), 0);
    }

    private static void bluff() {
        TailorChalks x = new TailorChalks();
        CHECK.due("bluff(30) if whole", x.bluff(30), NOT_POSSIBLE);
        Play.snipAll(x, 30, 31);
        CHECK.due("bluff(30)", x.bluff(30), 1);
        CHECK.due("of(30, 0)", x.of(30, 0), 3);
        CHECK.due("of(30, 5)", x.of(30, 5), 0);
        CHECK.due("of(30, 6)", x.of(30, 6), 0);
        CHECK.due("player(0, 1)", x.player(0, 1), 5);
        CHECK.due("bluff(30) if bluffed", x.bluff(30), NOT_POSSIBLE);
        CHECK.due("bluff(31)", x.bluff(31), 2);
        CHECK.due("of(31, 5)", x.of(31, 5), 1);
        x = new TailorChalks();
        x.snip(0);
        CHECK.due("bluff(0)", x.bluff(0), 1);
        Play.snipAll(x, 20, 42);
        CHECK.due("of(0, 1)", x.of(0, 1), 1);
        CHECK.due("of(0, 0) if void", x.of(0, 0), 3);
        CHECK.due("bluff(20): void ones do not count", x.bluff(20), 1);
        Play.snipAll(x, 6);
        CHECK.due("snip(49)", x.snip(49), 1);
        CHECK.due("bluff(6) if void", x.bluff(6), NOT_POSSIBLE);
    }

    private static void doubt() {
        TailorChalks x = new TailorChalks();
        CHECK.due("doubt(33) if whole", x.doubt(33), NOT_POSSIBLE);
        Play.snipAll(x, 33);
        CHECK.due("doubt(33) if cut", x.doubt(33), NOT_POSSIBLE);
        x.bluff(33);
        CHECK.due("doubt(33) if bluffed", x.doubt(33), 1);
        CHECK.due("of(33, 0)", x.of(33, 0), 1);
        CHECK.due("of(33, 5)", x.of(33, 5), NONE);
        CHECK.due("player(0, 0)", x.player(0, 0), 502);
        CHECK.due("player(0, 6)", x.player(0, 6), 1);
        CHECK.due("player(0, 7)", x.player(0, 7), 0);
        CHECK.due("player(1, 0)", x.player(1, 0), 500);
        CHECK.due("doubt(33) again", x.doubt(33), NOT_POSSIBLE);
        CHECK.due("sew(33)", x.sew(33), 4);
        CHECK.due("pass()", x.pass(), 1);
        CHECK.due("doubt(33) of the own seam", x.doubt(33), NOT_POSSIBLE);
        CHECK.due("of(33, 5)", x.of(33, 5), 1);
        CHECK.due("pass()", x.pass(), 0);
        CHECK.due("doubt(33) if sewn", x.doubt(33), 0);
        CHECK.due("of(33, 0)", x.of(33, 0), 2);
        CHECK.due("of(33, 5)", x.of(33, 5), NONE);
        CHECK.due("player(0, 0)", x.player(0, 0), 500);
        CHECK.due("player(0, 6)", x.player(0, 6), 1);
        CHECK.due("player(0, 7)", x.player(0, 7), 1);
        CHECK.due("pass()", x.pass(), 0);
        CHECK.due("doubt(33) a second time", x.doubt(33), NOT_POSSIBLE);
    }

    private static void doubtEndsWithANewSeam() {
        TailorChalks x = new TailorChalks();
        Play.snipAll(x, 33);
        x.bluff(33);
        x.snip(33);
        x.sew(33);
        CHECK.due("of(33, 5)", x.of(33, 5), 1);
        CHECK.due("doubt(33) of the newer seam", x.doubt(33), 0);
        x = new TailorChalks();
        x.snip(0);
        x.bluff(0);
        x.pass();
        x.snip(42);
        CHECK.due("of(0, 1)", x.of(0, 1), 1);
        CHECK.due("doubt(0) if void", x.doubt(0), NOT_POSSIBLE);
        CHECK.due("of(0, 5) if void", x.of(0, 5), NONE);
    }

    private static void pass() {
        TailorChalks x = new TailorChalks();
        long before = Play.print(x);
        CHECK.due("pass()", x.pass(), 1);
        CHECK.due("pass()", x.pass(), 0);
        CHECK.due("count(0)", x.count(0), 2);
        x.undo();
        x.undo();
        CHECK.due("print", Play.print(x), before);
        Play.pass(x, 199);
        CHECK.due("count(2)", x.count(2), 0);
        CHECK.due("pass() of turn 200", x.pass(), 0);
        CHECK.due("count(2)", x.count(2), 1);
        CHECK.due("pass() if over", x.pass(), NOT_POSSIBLE);
        CHECK.due("pass() if over", Play.overByCells().pass(), NOT_POSSIBLE);
    }

    private static void wrongJoints() {
        TailorChalks[] states = {new TailorChalks(), Play.overByTurns(), Play.overByCells()};
        for (TailorChalks x : states) {
            for (int joint : NO_JOINTS) {
                CHECK.due("chalk(" + joint + ")", x.chalk(joint), NO_SUCH);
                CHECK.due("snip(" + joint + ")", x.snip(joint), NO_SUCH);
                CHECK.due("sew(" + joint + ")", x.sew(joint), NO_SUCH);
                CHECK.due("bluff(" + joint + ")", x.bluff(joint), NO_SUCH);
                CHECK.due("doubt(" + joint + ")", x.doubt(joint), NO_SUCH);
            }
        }
    }

    private static void nothingWhenOver() {
        TailorChalks x = new TailorChalks();
        Play.snipAll(x, 30, 31);
        x.bluff(30);
        Play.pass(x, 197);
        CHECK.due("count(1)", x.count(1), 0);
        CHECK.due("count(2)", x.count(2), 1);
        CHECK.due("chalk(0)", x.chalk(0), NOT_POSSIBLE);
        CHECK.due("snip(0)", x.snip(0), NOT_POSSIBLE);
        CHECK.due("sew(31)", x.sew(31), NOT_POSSIBLE);
        CHECK.due("bluff(31)", x.bluff(31), NOT_POSSIBLE);
        CHECK.due("undo()", x.undo(), 5);
        CHECK.due("pass()", x.pass(), 0);
        x = new TailorChalks();
        Play.snipAll(x, 30);
        x.bluff(30);
        Play.pass(x, 198);
        CHECK.due("count(2)", x.count(2), 1);
        CHECK.due("doubt(30)", x.doubt(30), NOT_POSSIBLE);
        CHECK.due("of(30, 5) if over", x.of(30, 5), NONE);
        CHECK.due("undo()", x.undo(), 5);
        CHECK.due("of(30, 5)", x.of(30, 5), 1);
        x = Play.overByCells();
        CHECK.due("count(4)", x.count(4), 12);
        CHECK.due("chalk(0)", x.chalk(0), NOT_POSSIBLE);
        CHECK.due("snip(0)", x.snip(0), NOT_POSSIBLE);
    }

    private static void overWithFewerThanThirteenCells() {
        TailorChalks x = Play.thirteenCells();
        CHECK.due("count(4)", x.count(4), 13);
        CHECK.due("count(2)", x.count(2), 0);
        CHECK.due("chalk(1)", x.chalk(1), 1);
        CHECK.due("snip(0)", x.snip(0), 0);
        CHECK.due("snip(42)", x.snip(42), 1);
        CHECK.due("count(4)", x.count(4), 12);
        CHECK.due("count(2)", x.count(2), 1);
        CHECK.due("snip(1)", x.snip(1), NOT_POSSIBLE);
        CHECK.due("why(1)", x.why(1), 1);
    }

    private static void errorsChangeNothing() {
        TailorChalks x = new TailorChalks();
        Play.snipAll(x, 30, 0, 42);
        Play.type(x, "c1");
        long before = Play.fullPrint(x);
        x.chalk(30);
        x.chalk(0);
        x.snip(30);
        x.snip(0);
        x.sew(29);
        x.sew(0);
        x.bluff(29);
        x.bluff(0);
        x.doubt(30);
        x.doubt(0);
        for (int joint : NO_JOINTS) {
            x.chalk(joint);
            x.snip(joint);
            x.sew(joint);
            x.bluff(joint);
            x.doubt(joint);
        }
        CHECK.due("print", Play.fullPrint(x), before);
        CHECK.due("count(10)", x.count(10), 3);
        x = Play.overByTurns();
        before = Play.fullPrint(x);
        CHECK.due("pass()", x.pass(), NOT_POSSIBLE);
        CHECK.due("chalk(1)", x.chalk(1), NOT_POSSIBLE);
        CHECK.due("print", Play.fullPrint(x), before);
    }
}
