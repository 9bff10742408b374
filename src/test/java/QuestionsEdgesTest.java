/** Each sentence of the promises 8 to 12 that names a boundary case: what there is. */
public final class QuestionsEdgesTest {
    private static final int NO_SUCH = -1, BAD_VALUE = -2, NONE = -6;
    private static final Check CHECK = new Check("QuestionsEdgesTest");

    public static void main(String[] args) {
        of();
        cell();
        player();
        chalked();
        count();
        CHECK.end();
    }

    private static void of() {
        CHECK.section("Promise 8: of");
        CHECK.holds("0 how it is, 0 to 3 (also if it is void)", QuestionsEdgesTest::howItIs);
        CHECK.holds("1 whether it is void (1 or 0)", QuestionsEdgesTest::whetherVoid);
        CHECK.holds("2 its first cell (to the left, or above), 3 its second cell", QuestionsEdgesTest::cellsOfAJoint);
        CHECK.holds("4 players with chalk there, as a set", QuestionsEdgesTest::playersWithChalk);
        CHECK.holds("5 who sewed or bluffed it last, if that can be doubted (NONE)", QuestionsEdgesTest::whoCanBeDoubted);
        CHECK.holds("6 whether it holds (1 or 0)", QuestionsEdgesTest::whetherItHolds);
        CHECK.holds("NO_SUCH if there is no such joint", QuestionsEdgesTest::ofNoJoint);
        CHECK.holds("BAD_VALUE if what is out of range", QuestionsEdgesTest::ofWithWrongWhat);
    }

    private static void cell() {
        CHECK.section("Promise 9: cell");
        CHECK.holds("0 whether it is gone (1 or 0)", QuestionsEdgesTest::whetherGone);
        CHECK.holds("1 how many cells its piece has (0 if it is gone)", QuestionsEdgesTest::cellsOfItsPiece);
        CHECK.holds("2 the lowest cell of its piece (NONE if it is gone)", QuestionsEdgesTest::lowestOfItsPiece);
        CHECK.holds("3 how many joints hold it", QuestionsEdgesTest::jointsThatHoldIt);
        CHECK.holds("NO_SUCH if there is no such cell", QuestionsEdgesTest::noSuchCell);
        CHECK.holds("BAD_VALUE if what is out of range", QuestionsEdgesTest::cellWithWrongWhat);
    }

    private static void player() {
        CHECK.section("Promise 10: player");
        CHECK.holds("0 points and 500", QuestionsEdgesTest::pointsAndFiveHundred);
        CHECK.holds("1 threads, 2 joints with chalk, how many", QuestionsEdgesTest::threadsAndChalk);
        CHECK.holds("3 rags so far, 4 cells of these", QuestionsEdgesTest::ragsSoFar);
        CHECK.holds("5 chalk of the other one that this one found", QuestionsEdgesTest::chalkFound);
        CHECK.holds("6 doubts that were right, 7 doubts that were wrong so far", QuestionsEdgesTest::doubtsSoFar);
        CHECK.holds("NO_SUCH if there is no such player", QuestionsEdgesTest::noSuchPlayer);
        CHECK.holds("BAD_VALUE if what is out of range", QuestionsEdgesTest::playerWithWrongWhat);
    }

    private static void chalked() {
        CHECK.section("Promise 11: chalked");
        CHECK.holds("Returns a joint with chalk of a player, in the order in which it was chalked.",
            QuestionsEdgesTest::inTheOrderOfChalking);
        CHECK.holds("0 for the first one", QuestionsEdgesTest::firstRank);
        CHECK.holds("NO_SUCH if there is no such player", QuestionsEdgesTest::chalkedByNoPlayer);
        CHECK.holds("or there are not so many", QuestionsEdgesTest::notSoMany);
    }

    private static void count() {
        CHECK.section("Promise 12: count");
        CHECK.holds("0 turns so far", QuestionsEdgesTest::turnsSoFar);
        CHECK.holds("1 the player who is next", QuestionsEdgesTest::whoIsNext);
        CHECK.holds("2 whether the game is over (1 or 0)", QuestionsEdgesTest::whetherOver);
        CHECK.holds("3 who has more points, if it is over (2 if both have as many; NONE if it is not over)",
            QuestionsEdgesTest::whoHasMore);
        CHECK.holds("4 cells that are left, 5 pieces, how many", QuestionsEdgesTest::cellsAndPieces);
        CHECK.holds("6 joints that are cut, 7 sewn, 8 bluffed (void ones left out), how many",
            QuestionsEdgesTest::voidOnesLeftOut);
        CHECK.holds("9 the length of the pad", QuestionsEdgesTest::lengthOfThePad);
        CHECK.holds("10 how many changes can be undone", QuestionsEdgesTest::changesToUndo);
        CHECK.holds("BAD_VALUE if what is out of range", QuestionsEdgesTest::countOfWrongWhat);
    }

    // ---- of

    private static void howItIs() {
        TailorChalks x = Play.game("s20;s21;s22;w20;b21");
        CHECK.due("of(19, 0) if whole", x.of(19, 0), 0);
        CHECK.due("of(22, 0) if cut", x.of(22, 0), 1);
        CHECK.due("of(20, 0) if sewn", x.of(20, 0), 2);
        CHECK.due("of(21, 0) if bluffed", x.of(21, 0), 3);
        x = Play.game(Play.RAG_WITH_ALL);
        CHECK.due("of(0, 0) if void, whole", x.of(0, 0), 0);
        CHECK.due("of(1, 0) if void, cut", x.of(1, 0), 1);
        CHECK.due("of(55, 0) if void, cut by the last snip", x.of(55, 0), 1);
        CHECK.due("of(2, 0) if void, sewn", x.of(2, 0), 2);
        CHECK.due("of(3, 0) if void, bluffed", x.of(3, 0), 3);
    }

    private static void whetherVoid() {
        TailorChalks x = Play.game("s0;s42;s41;s81");
        for (int joint = 0; joint < 82; joint++) {
            int due = joint == 0 || joint == 42 || joint == 41 || joint == 81 ? 1 : 0;
            CHECK.due("of(" + joint + ", 1)", x.of(joint, 1), due);
        }
        x = Play.game("s20");
        CHECK.due("of(20, 1) if cut", x.of(20, 1), 0);
        x = Play.game("s58;s59;s60;s61;s62;s63;s64;s65");
        CHECK.due("of(58, 1) between pieces that stay", x.of(58, 1), 0);
    }

    private static void cellsOfAJoint() {
        int[][] joints = {{0, 0, 1}, {6, 6, 7}, {7, 8, 9}, {41, 46, 47}, {42, 0, 8}, {49, 7, 15}, {50, 8, 16}, {81, 39, 47}};
        TailorChalks x = Play.game("s0;s42;s41;s81");
        for (int[] joint : joints) {
            CHECK.due("of(" + joint[0] + ", 2)", x.of(joint[0], 2), joint[1]);
            CHECK.due("of(" + joint[0] + ", 3)", x.of(joint[0], 3), joint[2]);
        }
    }

    private static void playersWithChalk() {
        int[] ends = {0, 41, 42, 81};
        for (int joint : ends) {
            TailorChalks x = new TailorChalks();
            CHECK.due("of(" + joint + ", 4) at first", x.of(joint, 4), 0);
            x.chalk(joint);
            CHECK.due("of(" + joint + ", 4) of player 0", x.of(joint, 4), 1);
            x.chalk(joint);
            CHECK.due("of(" + joint + ", 4) of both", x.of(joint, 4), 3);
            x.snip(joint);
            CHECK.due("of(" + joint + ", 4) if snipped", x.of(joint, 4), 0);
            x = Play.game("p;c" + joint);
            CHECK.due("of(" + joint + ", 4) of player 1", x.of(joint, 4), 2);
        }
        CHECK.due("of(0, 4) if void", Play.game("c0;c0;s1;s42;p;s43").of(0, 4), 0);
    }

    private static void whoCanBeDoubted() {
        TailorChalks x = Play.game("s20;s21;w20;b21");
        CHECK.due("of(19, 5) if whole", x.of(19, 5), NONE);
        CHECK.due("of(20, 5) if sewn by player 0", x.of(20, 5), 0);
        CHECK.due("of(21, 5) if bluffed by player 1", x.of(21, 5), 1);
        Play.turns(x, "d21;d20");
        CHECK.due("of(20, 5) if doubted", x.of(20, 5), NONE);
        CHECK.due("of(21, 5) if doubted", x.of(21, 5), NONE);
        CHECK.due("of(20, 5) if cut", Play.game("s20").of(20, 5), NONE);
        x = Play.game(Play.RAG_WITH_ALL);
        int[] seams = {2, 3, 8, 11};
        for (int joint : seams) {
            CHECK.due("of(" + joint + ", 5) if void", x.of(joint, 5), NONE);
        }
        CHECK.due("of(20, 5) if over", Play.overByTurns("s20;w20").of(20, 5), NONE);
        CHECK.due("of(0, 5) if over", Play.overByCells("s0;w0").of(0, 5), NONE);
    }

    private static void whetherItHolds() {
        TailorChalks x = Play.game("s20;s21;s22;w20;b21");
        CHECK.due("of(19, 6) if whole", x.of(19, 6), 1);
        CHECK.due("of(22, 6) if cut", x.of(22, 6), 0);
        CHECK.due("of(20, 6) if sewn", x.of(20, 6), 1);
        CHECK.due("of(21, 6) if bluffed", x.of(21, 6), 0);
        x = Play.game(Play.RAG_WITH_ALL);
        CHECK.due("of(0, 6) if void, whole", x.of(0, 6), 0);
        CHECK.due("of(2, 6) if void, sewn", x.of(2, 6), 0);
        CHECK.due("of(0, 6) if over", Play.overByTurns().of(0, 6), 1);
    }

    private static void ofNoJoint() {
        TailorChalks x = new TailorChalks();
        for (int joint : Play.outside(81)) {
            for (int what = 0; what <= 6; what++) {
                CHECK.due("of(" + joint + ", " + what + ")", x.of(joint, what), NO_SUCH);
            }
        }
    }

    private static void ofWithWrongWhat() {
        TailorChalks x = Play.game("s0;s42");
        for (int what : Play.outside(6)) {
            CHECK.due("of(81, " + what + ")", x.of(81, what), BAD_VALUE);
            CHECK.due("of(0, " + what + ") if void", x.of(0, what), BAD_VALUE);
        }
    }

    // ---- cell

    private static void whetherGone() {
        TailorChalks x = Play.game("s0;s42;s41;s81");
        for (int cell = 0; cell < 48; cell++) {
            CHECK.due("cell(" + cell + ", 0)", x.cell(cell, 0), cell == 0 || cell == 47 ? 1 : 0);
        }
    }

    private static void cellsOfItsPiece() {
        TailorChalks x = new TailorChalks();
        CHECK.due("cell(0, 1) of the whole cloth", x.cell(0, 1), 48);
        x = Play.game("s0;s42");
        CHECK.due("cell(0, 1) if gone", x.cell(0, 1), 0);
        CHECK.due("cell(47, 1) of the rest", x.cell(47, 1), 47);
        // A piece of 13 cells comes down to one cell.
        x = Play.game("s47;s48;s49;s11;s50;s51;s52;s53;s54");
        CHECK.due("cell(0, 1) of 13", x.cell(0, 1), 13);
        CHECK.due("cell(13, 1) of 35", x.cell(13, 1), 35);
        Play.turns(x, "s0");
        CHECK.due("snip(42), which leaves the cell 0 or 12 others", x.snip(42), 1);
        CHECK.due("cell(1, 1) of 12", x.cell(1, 1), 12);
        CHECK.due("cell(0, 1) if gone", x.cell(0, 1), 0);
        CHECK.due("cell(0, 1) of one cell", oneCell().cell(0, 1), 1);
    }

    /** The cell 0 alone, apart from 24 others: 12 cells, 6 of these, 3 of these, 1 of these. */
    private static TailorChalks oneCell() {
        TailorChalks x = Play.twelveByTwentyFour();
        Play.turns(x, "s1;s8;s15;s0;s7;s14;s50;s42");
        CHECK.due("count(4)", x.count(4), 25);
        return x;
    }

    private static void lowestOfItsPiece() {
        TailorChalks x = new TailorChalks();
        CHECK.due("cell(0, 2)", x.cell(0, 2), 0);
        CHECK.due("cell(47, 2)", x.cell(47, 2), 0);
        x = Play.game("s0;s42");
        CHECK.due("cell(0, 2) if gone", x.cell(0, 2), NONE);
        CHECK.due("cell(47, 2)", x.cell(47, 2), 1);
        x = Play.game("s58;s59;s60;s61;s62;s63;s64;s65");
        CHECK.due("cell(23, 2)", x.cell(23, 2), 0);
        CHECK.due("cell(24, 2)", x.cell(24, 2), 24);
        CHECK.due("cell(47, 2)", x.cell(47, 2), 24);
        CHECK.due("cell(0, 2) of one cell", oneCell().cell(0, 2), 0);
    }

    private static void jointsThatHoldIt() {
        TailorChalks x = new TailorChalks();
        int[] corners = {0, 7, 40, 47};
        for (int cell : corners) {
            CHECK.due("cell(" + cell + ", 3) in a corner", x.cell(cell, 3), 2);
        }
        int[] borders = {1, 6, 8, 15, 32, 39, 41, 46};
        for (int cell : borders) {
            CHECK.due("cell(" + cell + ", 3) at the border", x.cell(cell, 3), 3);
        }
        CHECK.due("cell(9, 3)", x.cell(9, 3), 4);
        CHECK.due("cell(38, 3)", x.cell(38, 3), 4);
        // The cell 9 has the joints 7 and 8, 43 and 51.
        x = Play.game("s7;s8;s43");
        CHECK.due("cell(9, 3) by one", x.cell(9, 3), 1);
        x.bluff(7);
        CHECK.due("cell(9, 3) with a bluff", x.cell(9, 3), 1);
        x.sew(8);
        CHECK.due("cell(9, 3) with a seam", x.cell(9, 3), 2);
        CHECK.due("cell(0, 3) if gone", Play.game("s0;s42").cell(0, 3), 0);
        CHECK.due("cell(1, 3) beside a gone one", Play.game("s0;s42").cell(1, 3), 2);
        CHECK.due("cell(0, 3) of one cell", oneCell().cell(0, 3), 0);
    }

    private static void noSuchCell() {
        TailorChalks x = new TailorChalks();
        for (int cell : Play.outside(47)) {
            for (int what = 0; what <= 3; what++) {
                CHECK.due("cell(" + cell + ", " + what + ")", x.cell(cell, what), NO_SUCH);
            }
        }
    }

    private static void cellWithWrongWhat() {
        TailorChalks x = Play.game("s0;s42");
        for (int what : Play.outside(3)) {
            CHECK.due("cell(47, " + what + ")", x.cell(47, what), BAD_VALUE);
            CHECK.due("cell(0, " + what + ") if gone", x.cell(0, what), BAD_VALUE);
        }
    }

    // ---- player

    private static void pointsAndFiveHundred() {
        TailorChalks x = new TailorChalks();
        CHECK.due("player(0, 0) of 0", x.player(0, 0), 500);
        CHECK.due("player(1, 0) of 0", x.player(1, 0), 500);
        x = Play.game("s20;w20;d20");
        CHECK.due("player(0, 0) of -2", x.player(0, 0), 498);
        x = Play.game("s0;s42");
        CHECK.due("player(1, 0) of 1", x.player(1, 0), 501);
        CHECK.due("player(1, 0) of 24", Play.overByCells().player(1, 0), 524);
    }

    private static void threadsAndChalk() {
        TailorChalks x = Play.game("s0;s1;s2;s3;s4;p");
        for (int joint = 0; joint < 5; joint++) {
            CHECK.due("player(0, 1)", x.player(0, 1), 5 - joint);
            x.sew(joint);
            x.chalk(20 + joint);
            CHECK.due("player(1, 2)", x.player(1, 2), joint + 1);
        }
        CHECK.due("player(0, 1)", x.player(0, 1), 0);
        CHECK.due("player(0, 2)", x.player(0, 2), 0);
        CHECK.due("player(1, 1)", x.player(1, 1), 5);
    }

    private static void ragsSoFar() {
        TailorChalks x = Play.game("s0;s42;s41;s81;s6;p;s49");
        CHECK.due("player(0, 3)", x.player(0, 3), 1);
        CHECK.due("player(0, 4)", x.player(0, 4), 1);
        CHECK.due("player(1, 3)", x.player(1, 3), 2);
        CHECK.due("player(1, 4)", x.player(1, 4), 2);
        x = Play.game("s46;s47;s48;s49;s10;s50;s51;s52;s53");
        CHECK.due("player(0, 3) with 12 cells", x.player(0, 3), 1);
        CHECK.due("player(0, 4) with 12 cells", x.player(0, 4), 12);
        x = Play.game("s47;s48;s49;s11;s50;s51;s52;s53;s54");
        CHECK.due("player(0, 3) with 13 cells that stay", x.player(0, 3), 0);
        CHECK.due("player(0, 4) with 13 cells that stay", x.player(0, 4), 0);
    }

    private static void chalkFound() {
        TailorChalks x = Play.game("c20;c20;c21;c22;s20;s21");
        CHECK.due("player(0, 5)", x.player(0, 5), 1);
        CHECK.due("player(1, 5)", x.player(1, 5), 1);
        // Own chalk is not found, nor chalk that falls off with a rag.
        x = Play.game("c20;p;s20;p;c0;s1;p;s42;p;s43");
        CHECK.due("cell(0, 0)", x.cell(0, 0), 1);
        CHECK.due("player(0, 5)", x.player(0, 5), 0);
        CHECK.due("player(1, 5)", x.player(1, 5), 0);
    }

    private static void doubtsSoFar() {
        TailorChalks x = Play.game("s0;s1;s2;s3;w0;b1");
        // Player 0 sewed 0, player 1 bluffed 1.
        Play.turns(x, "d1;d0;b2;d2;w3;d3");
        CHECK.due("player(0, 6)", x.player(0, 6), 1);
        CHECK.due("player(0, 7)", x.player(0, 7), 0);
        CHECK.due("player(1, 6)", x.player(1, 6), 1);
        CHECK.due("player(1, 7)", x.player(1, 7), 2);
    }

    private static void noSuchPlayer() {
        TailorChalks x = new TailorChalks();
        for (int player : Play.outside(1)) {
            for (int what = 0; what <= 7; what++) {
                CHECK.due("player(" + player + ", " + what + ")", x.player(player, what), NO_SUCH);
            }
        }
    }

    private static void playerWithWrongWhat() {
        TailorChalks x = new TailorChalks();
        for (int what : Play.outside(7)) {
            CHECK.due("player(0, " + what + ")", x.player(0, what), BAD_VALUE);
            CHECK.due("player(1, " + what + ")", x.player(1, what), BAD_VALUE);
        }
    }

    // ---- chalked

    private static void ranks(TailorChalks x, int player, int... joints) {
        for (int rank = 0; rank < joints.length; rank++) {
            CHECK.due("chalked(" + player + ", " + rank + ")", x.chalked(player, rank), joints[rank]);
        }
        CHECK.due("chalked(" + player + ", " + joints.length + ")", x.chalked(player, joints.length), NO_SUCH);
    }

    private static void inTheOrderOfChalking() {
        String eight = "c81;p;c20;p;c41;p;c0;p;c42;p;c7;p;c60;p;c33;";
        ranks(Play.game(eight + "p"), 0, 81, 20, 41, 0, 42, 7, 60, 33);
        // The first, one amid them and the last are found: the others move up.
        ranks(Play.game(eight + "s81"), 0, 20, 41, 0, 42, 7, 60, 33);
        ranks(Play.game(eight + "s0"), 0, 81, 20, 41, 42, 7, 60, 33);
        ranks(Play.game(eight + "s33"), 0, 81, 20, 41, 0, 42, 7, 60);
        // Chalked anew, it is the last one.
        ranks(Play.game(eight + "s81;p;w81;c81"), 0, 20, 41, 0, 42, 7, 60, 33, 81);
        ranks(Play.game("p;c30;p;c2;c5;c9"), 1, 30, 2, 9);
    }

    private static void firstRank() {
        TailorChalks x = Play.game("c20;c30");
        CHECK.due("chalked(0, 0)", x.chalked(0, 0), 20);
        CHECK.due("chalked(1, 0)", x.chalked(1, 0), 30);
        CHECK.due("chalked(0, -1)", x.chalked(0, -1), NO_SUCH);
        CHECK.due("chalked(0, 1)", x.chalked(0, 1), NO_SUCH);
    }

    private static void chalkedByNoPlayer() {
        TailorChalks x = Play.game("c20;c30");
        for (int player : Play.outside(1)) {
            CHECK.due("chalked(" + player + ", 0)", x.chalked(player, 0), NO_SUCH);
            CHECK.due("chalked(" + player + ", -1)", x.chalked(player, -1), NO_SUCH);
        }
    }

    private static void notSoMany() {
        TailorChalks x = new TailorChalks();
        CHECK.due("chalked(0, 0) at first", x.chalked(0, 0), NO_SUCH);
        CHECK.due("chalked(1, 0) at first", x.chalked(1, 0), NO_SUCH);
        x = Play.game("c20;p;c21;p;c22;p;c23;p;c24;p;c25;p;c26;p;c27");
        CHECK.due("chalked(0, 7)", x.chalked(0, 7), 27);
        for (int rank : Play.outside(7)) {
            CHECK.due("chalked(0, " + rank + ") of 8", x.chalked(0, rank), NO_SUCH);
            CHECK.due("chalked(1, " + rank + ") of none", x.chalked(1, rank), NO_SUCH);
        }
        x.snip(27);
        CHECK.due("chalked(0, 7) when one was found", x.chalked(0, 7), NO_SUCH);
        CHECK.due("chalked(0, 6) when one was found", x.chalked(0, 6), 26);
    }

    // ---- count

    private static void turnsSoFar() {
        TailorChalks x = new TailorChalks();
        CHECK.due("count(0)", x.count(0), 0);
        Play.turns(x, "c20;s21;w21;s22;b22;d22;p");
        CHECK.due("count(0) behind one of each and a snip", x.count(0), 7);
        x.snip(21);
        x.sew(20);
        CHECK.due("count(0) behind an error, too", x.count(0), 8);
        CHECK.due("count(0) if over", Play.overByTurns().count(0), 200);
    }

    private static void whoIsNext() {
        TailorChalks x = new TailorChalks();
        CHECK.due("count(1)", x.count(1), 0);
        x.pass();
        CHECK.due("count(1)", x.count(1), 1);
        x.pass();
        CHECK.due("count(1)", x.count(1), 0);
        CHECK.due("count(1) if over", Play.overByCells().count(1), 1);
        CHECK.due("count(1) if over", Play.overByTurns().count(1), 0);
    }

    private static void whetherOver() {
        TailorChalks x = new TailorChalks();
        Play.pass(x, 199);
        CHECK.due("count(2) behind 199 turns", x.count(2), 0);
        x.pass();
        CHECK.due("count(2) behind 200 turns", x.count(2), 1);
        x = Play.thirteenCells();
        CHECK.due("count(2) with 13 cells", x.count(2), 0);
        Play.turns(x, "s0;s42");
        CHECK.due("count(2) with 12 cells", x.count(2), 1);
    }

    private static void whoHasMore() {
        CHECK.due("count(3) of 0 and 0", Play.overByTurns().count(3), 2);
        CHECK.due("count(3) of 0 and 1", Play.overByTurns("s0;s42").count(3), 1);
        CHECK.due("count(3) of 1 and 0", Play.overByTurns("p;s0;s42").count(3), 0);
        CHECK.due("count(3) of 1 and 1", Play.overByTurns("s0;s42;p;s41;s81").count(3), 2);
        CHECK.due("count(3) of -2 and 0", Play.overByTurns("s20;w20;d20").count(3), 1);
        CHECK.due("count(3) of 12 and 24", Play.overByCells().count(3), 1);
        TailorChalks x = Play.game("s0;s42");
        CHECK.due("count(3) if not over", x.count(3), NONE);
        x = Play.game("p;s0;s42");
        Play.pass(x, 196);
        CHECK.due("count(3) in the last turn", x.count(3), NONE);
        x.pass();
        CHECK.due("count(3) behind the last turn", x.count(3), 0);
    }

    private static void cellsAndPieces() {
        TailorChalks x = new TailorChalks();
        CHECK.due("count(4)", x.count(4), 48);
        CHECK.due("count(5)", x.count(5), 1);
        x = Play.game("s0;s42");
        CHECK.due("count(4) without a corner", x.count(4), 47);
        CHECK.due("count(5) without a corner", x.count(5), 1);
        x = Play.game("s58;s59;s60;s61;s62;s63;s64;s65");
        CHECK.due("count(4) of two pieces", x.count(4), 48);
        CHECK.due("count(5) of two pieces", x.count(5), 2);
        // Three of 16: the rows 0 and 1, 2 and 3, 4 and 5.
        x = Play.game("s50;s51;s52;s53;s54;s55;s56;s57;s66;s67;s68;s69;s70;s71;s72;s73");
        CHECK.due("count(4) of three pieces", x.count(4), 48);
        CHECK.due("count(5) of three pieces", x.count(5), 3);
        x.bluff(50);
        CHECK.due("count(5) with a bluff", x.count(5), 3);
        x.sew(66);
        CHECK.due("count(5) with a seam", x.count(5), 2);
        x = oneCell();
        CHECK.due("count(4) of one cell and 24", x.count(4), 25);
        CHECK.due("count(5) of one cell and 24", x.count(5), 2);
        x = Play.overByCells();
        CHECK.due("count(4) if over", x.count(4), 12);
        CHECK.due("count(5) if over", x.count(5), 1);
    }

    private static void voidOnesLeftOut() {
        TailorChalks x = Play.game("s20;s21;s22;w20;b21");
        CHECK.due("count(6)", x.count(6), 1);
        CHECK.due("count(7)", x.count(7), 1);
        CHECK.due("count(8)", x.count(8), 1);
        // In the rag 1 is cut, 2 and 8 are sewn, 3 and 11 bluffed; outside nothing was done.
        x = Play.game(Play.RAG_WITH_ALL);
        CHECK.due("count(6) if all are void", x.count(6), 0);
        CHECK.due("count(7) if all are void", x.count(7), 0);
        CHECK.due("count(8) if all are void", x.count(8), 0);
        x.undo();
        CHECK.due("count(6) ahead of that", x.count(6), 8);
        CHECK.due("count(7) ahead of that", x.count(7), 2);
        CHECK.due("count(8) ahead of that", x.count(8), 2);
    }

    private static void lengthOfThePad() {
        TailorChalks x = new TailorChalks();
        CHECK.due("count(9) at first", x.count(9), 0);
        x.put('x');
        CHECK.due("count(9) of one", x.count(9), 1);
        x = Play.typed("p;p;p;p;".repeat(10));
        CHECK.due("count(9) of a full pad", x.count(9), 80);
        x.put('p');
        CHECK.due("count(9) of a full pad", x.count(9), 80);
        x.wipe();
        CHECK.due("count(9) when wiped", x.count(9), 0);
    }

    private static void changesToUndo() {
        TailorChalks x = new TailorChalks();
        int[] due = {0, 1, 2, 3, 4, 5, 6, 6, 6};
        for (int change = 0; change < due.length; change++) {
            CHECK.due("count(10) behind " + change, x.count(10), due[change]);
            x.pass();
        }
        for (int left = 5; left >= 0; left--) {
            x.undo();
            CHECK.due("count(10) when undone", x.count(10), left);
        }
        x.undo();
        CHECK.due("count(10) when nothing is left", x.count(10), 0);
    }

    private static void countOfWrongWhat() {
        TailorChalks x = new TailorChalks();
        for (int what : Play.outside(10)) {
            CHECK.due("count(" + what + ")", x.count(what), BAD_VALUE);
        }
    }
}
