/** Each sentence of the promises 13 to 17 that names a boundary case: what if. */
public final class WhatIfEdgesTest {
    private static final int NO_SUCH = -1, BAD_VALUE = -2, NOT_POSSIBLE = -5, NONE = -6;

    /** Pieces of 24 cells, the rows 0 to 2 and 3 to 5; player 0 is next. */
    private static final String HALVES = "s58;s59;s60;s61;s62;s63;s64;s65";
    private static final Check CHECK = new Check("WhatIfEdgesTest");

    public static void main(String[] args) {
        CHECK.section("Texts");
        CHECK.holds("what if; nothing changes", WhatIfEdgesTest::nothingChanges);
        why();
        ifSnipped();
        bestSnip();
        weak();
        together();
        CHECK.end();
    }

    private static void why() {
        CHECK.section("Promise 13: why");
        CHECK.holds("Returns the first of these that is so", WhatIfEdgesTest::firstReason);
        CHECK.holds("1 the game is over", WhatIfEdgesTest::whyIfOver);
        CHECK.holds("2 it is void", WhatIfEdgesTest::whyIfVoid);
        CHECK.holds("3 it is cut", WhatIfEdgesTest::whyIfCut);
        CHECK.holds("0: it can", WhatIfEdgesTest::whyIfItCan);
        CHECK.holds("NO_SUCH if there is no such joint", WhatIfEdgesTest::whyOfNoJoint);
    }

    private static void ifSnipped() {
        CHECK.section("Promise 14: ifSnipped");
        CHECK.holds("Tells how many cells would fall off by a snip.", WhatIfEdgesTest::asManyAsSnipTells);
        CHECK.holds("Returns how many", WhatIfEdgesTest::howManyWouldFall);
        CHECK.holds("errors as for snip()", WhatIfEdgesTest::errorsAsForSnip);
    }

    private static void bestSnip() {
        CHECK.section("Promise 15: bestSnip");
        CHECK.holds("the player whose turn it is would get the most points", WhatIfEdgesTest::whoseTurnItIs);
        CHECK.holds("the most points of those for cells and own chalk", WhatIfEdgesTest::cellsAndOwnChalk);
        CHECK.holds("(the other one's chalk is hidden)", WhatIfEdgesTest::otherOnesChalkIsHidden);
        CHECK.holds("of several the lowest one", WhatIfEdgesTest::lowestOfSeveral);
        CHECK.holds("0 the joint, 1 the points", WhatIfEdgesTest::jointAndPoints);
        CHECK.holds("BAD_VALUE if what is neither", WhatIfEdgesTest::bestSnipOfNeither);
        CHECK.holds("NONE if no joint can be snipped", WhatIfEdgesTest::noJointCanBeSnipped);
    }

    private static void weak() {
        CHECK.section("Promise 16: weak");
        CHECK.holds("how many joints that hold are such that cells would fall off if they were snipped",
            WhatIfEdgesTest::jointsByWhichCellsFall);
        CHECK.holds("joints that hold", WhatIfEdgesTest::onlyJointsThatHold);
        CHECK.holds("(0 if the game is over)", WhatIfEdgesTest::noneIfOver);
    }

    private static void together() {
        CHECK.section("Promise 17: together");
        CHECK.holds("Tells whether two cells hang together by joints that hold", WhatIfEdgesTest::byThoseThatHold);
        CHECK.holds("or would if bluffed seams held, too", WhatIfEdgesTest::ifBluffsHeld);
        CHECK.holds("0 by those that hold, 1 bluffed ones, too", WhatIfEdgesTest::bothWays);
        CHECK.holds("Returns 1 if they do, otherwise 0", WhatIfEdgesTest::aCellWithItself);
        CHECK.holds("NO_SUCH if there is no such cell", WhatIfEdgesTest::togetherWithNoCell);
        CHECK.holds("BAD_VALUE if way is neither", WhatIfEdgesTest::neitherWay);
        CHECK.holds("NOT_POSSIBLE if one of both is gone", WhatIfEdgesTest::oneOfBothIsGone);
    }

    private static void nothingChanges() {
        TailorChalks x = Play.game(HALVES + ";s3;s10;s17;b58;c0");
        TailorChalks y = Play.game(HALVES + ";s3;s10;s17;b58;c0");
        for (int joint = 0; joint < 82; joint++) {
            x.why(joint);
            x.ifSnipped(joint);
        }
        x.bestSnip(0);
        x.bestSnip(1);
        x.weak();
        x.together(0, 47, 0);
        x.together(0, 47, 1);
        CHECK.isSo("all is as it was", Play.deepPrint(x) == Play.deepPrint(y));
    }

    // ---- why

    private static void firstReason() {
        // With 12 cells left, 3 is void and cut, and 2 is cut: that it is over comes first.
        TailorChalks x = Play.overByCells("s2;p");
        CHECK.due("of(3, 1)", x.of(3, 1), 1);
        CHECK.due("why(3) if over, void and cut", x.why(3), 1);
        CHECK.due("why(4) if over and void", x.why(4), 1);
        CHECK.due("why(2) if over and cut", x.why(2), 1);
        CHECK.due("why(0) if over", x.why(0), 1);
        x = Play.game("s0;s42");
        CHECK.due("why(0) if void and cut", x.why(0), 2);
        Play.pass(x, 198);
        CHECK.due("why(0) if over, void and cut", x.why(0), 1);
    }

    private static void whyIfOver() {
        TailorChalks x = new TailorChalks();
        Play.pass(x, 199);
        CHECK.due("why(0) behind 199 turns", x.why(0), 0);
        x.pass();
        CHECK.due("why(0) behind 200 turns", x.why(0), 1);
        CHECK.due("why(81) behind 200 turns", x.why(81), 1);
        x = Play.game(Play.HALF + ";s3;s10;s18;s54;s0");
        CHECK.due("why(1) with 13 cells", x.why(1), 0);
        x.snip(42);
        CHECK.due("why(1) with 12 cells", x.why(1), 1);
    }

    private static void whyIfVoid() {
        TailorChalks x = Play.game(Play.RAG_WITH_ALL);
        int[] joints = {0, 1, 2, 3, 4, 5, 7, 8, 11, 12, 42, 47, 50, 55};
        for (int joint : joints) {
            CHECK.due("why(" + joint + ")", x.why(joint), 2);
        }
        CHECK.due("why(6) beside the rag", x.why(6), 0);
        x = Play.game("s6;s49;s41;s81");
        CHECK.due("why(6), its second cell gone", x.why(6), 2);
        CHECK.due("why(81), its second cell gone", x.why(81), 2);
    }

    private static void whyIfCut() {
        int[] ends = {0, 41, 42, 81};
        for (int joint : ends) {
            TailorChalks x = Play.game("s" + joint);
            CHECK.due("why(" + joint + ") if cut", x.why(joint), 3);
            Play.turns(x, "b" + joint + ";d" + joint);
            CHECK.due("why(" + joint + ") if cut again by a doubt", x.why(joint), 3);
        }
    }

    private static void whyIfItCan() {
        int[] ends = {0, 41, 42, 81};
        for (int joint : ends) {
            TailorChalks x = new TailorChalks();
            CHECK.due("why(" + joint + ") if whole", x.why(joint), 0);
            Play.turns(x, "s" + joint + ";w" + joint);
            CHECK.due("why(" + joint + ") if sewn", x.why(joint), 0);
            Play.turns(x, "s" + joint + ";b" + joint);
            CHECK.due("why(" + joint + ") if bluffed", x.why(joint), 0);
        }
    }

    private static void whyOfNoJoint() {
        TailorChalks[] states = {new TailorChalks(), Play.game("s0;s42"), Play.overByTurns(), Play.overByCells()};
        for (TailorChalks x : states) {
            for (int joint : Play.outside(81)) {
                CHECK.due("why(" + joint + ")", x.why(joint), NO_SUCH);
            }
        }
    }

    // ---- ifSnipped

    private static void asManyAsSnipTells() {
        String[] states = {"p", "s0", "s46;s47;s48;s49;s10;s50;s51;s52", HALVES + ";s3;s10;s17;b58", HALVES + ";s3;s10"};
        for (String state : states) {
            TailorChalks asked = Play.game(state);
            for (int joint = 0; joint < 82; joint++) {
                TailorChalks snipped = Play.game(state);
                CHECK.due("ifSnipped(" + joint + ") of " + state, asked.ifSnipped(joint), snipped.snip(joint));
            }
        }
    }

    private static void howManyWouldFall() {
        CHECK.due("ifSnipped(0) of the whole cloth", new TailorChalks().ifSnipped(0), 0);
        TailorChalks x = Play.game("s0;s41");
        CHECK.due("ifSnipped(42) of one cell", x.ifSnipped(42), 1);
        CHECK.due("ifSnipped(81) of one cell", x.ifSnipped(81), 1);
        x = Play.game("s46;s47;s48;s49;s10;s50;s51;s52");
        CHECK.due("ifSnipped(53) of 12 cells", x.ifSnipped(53), 12);
        x = Play.game("s47;s48;s49;s11;s50;s51;s52;s53");
        CHECK.due("ifSnipped(54) of 13 cells", x.ifSnipped(54), 0);
        x = Play.game(HALVES + ";s3;s10");
        CHECK.due("ifSnipped(17) of 12 and 12 cells", x.ifSnipped(17), 12);
        x = Play.game("s0;w0;s42;b42");
        CHECK.due("ifSnipped(42) of a bluff beside a seam", x.ifSnipped(42), 0);
        CHECK.due("ifSnipped(0) of a seam beside a bluff", x.ifSnipped(0), 1);
        // It makes no difference what chalk is there.
        CHECK.due("ifSnipped(0) with chalk", Play.game("c0;c0;s42").ifSnipped(0), 1);
    }

    private static void errorsAsForSnip() {
        TailorChalks[] states = {new TailorChalks(), Play.game(Play.RAG_WITH_ALL), Play.overByTurns()};
        for (TailorChalks x : states) {
            for (int joint : Play.outside(81)) {
                CHECK.due("ifSnipped(" + joint + ")", x.ifSnipped(joint), NO_SUCH);
            }
        }
        TailorChalks x = Play.game(Play.RAG_WITH_ALL + ";s20");
        int[] joints = {0, 1, 2, 3, 5, 55};
        for (int joint : joints) {
            CHECK.due("ifSnipped(" + joint + ") if void", x.ifSnipped(joint), NOT_POSSIBLE);
        }
        CHECK.due("ifSnipped(20) if cut", x.ifSnipped(20), NOT_POSSIBLE);
        CHECK.due("ifSnipped(21) if whole", x.ifSnipped(21), 0);
        CHECK.due("ifSnipped(0) if over", Play.overByTurns("s42").ifSnipped(0), NOT_POSSIBLE);
        CHECK.due("ifSnipped(0) if over", Play.overByCells("s42;p").ifSnipped(0), NOT_POSSIBLE);
    }

    // ---- bestSnip

    private static void best(TailorChalks x, String when, int joint, int points) {
        CHECK.due("bestSnip(0) " + when, x.bestSnip(0), joint);
        CHECK.due("bestSnip(1) " + when, x.bestSnip(1), points);
    }

    private static void whoseTurnItIs() {
        TailorChalks x = Play.game("c50;c60");
        best(x, "of player 0, who chalked 50", 50, 1);
        x.pass();
        best(x, "of player 1, who chalked 60", 60, 1);
    }

    private static void cellsAndOwnChalk() {
        best(Play.game("s0"), "of one cell", 42, 1);
        best(Play.game("c42;s0"), "of one cell and own chalk", 42, 2);
        best(Play.game("s46;s47;s48;s49;s10;s50;s51;s52"), "of 12 cells", 53, 12);
        best(Play.game("c53;s46;s47;s48;s49;s10;s50;s51;s52;p"), "of 12 cells and own chalk", 53, 13);
        // By 54, 13 cells would come apart and stay; 4 holds the last three cells of the row 0.
        best(Play.game("s47;s48;s49;s11;s50;s51;s52;s53"), "if 13 cells would stay", 4, 3);
        // Own chalk alone is as good as one cell, and worse than two.
        best(Play.game("c60;p;s0"), "of player 1, who has no chalk", 42, 1);
        best(Play.game("c60;p;s0;p"), "of own chalk or one cell", 42, 1);
        best(Play.game("c41;p;s0;p"), "of own chalk at a lower joint, or one cell", 41, 1);
        best(Play.game("c2;s1;p;s42"), "of own chalk or two cells", 43, 2);
    }

    private static void otherOnesChalkIsHidden() {
        TailorChalks x = Play.game("c0");
        best(x, "of player 1, where player 0 has chalk", 0, 0);
        x = Play.game("c42;s0");
        best(x, "of player 0 with own chalk", 42, 2);
        x.pass();
        best(x, "of player 1 with the other one's chalk", 42, 1);
        CHECK.due("snip(42), which costs 3", x.snip(42), 1);
        CHECK.due("player(1, 0)", x.player(1, 0), 498);
        best(Play.game("c50;c50"), "with chalk of both", 50, 1);
    }

    private static void lowestOfSeveral() {
        best(new TailorChalks(), "of all", 0, 0);
        best(Play.game("s0"), "of one", 42, 1);
        best(Play.game("s81;s42"), "of two cells in corners", 0, 1);
        best(Play.game("c81;p;c42;p;c5"), "of player 1 without chalk", 0, 0);
        best(Play.game("c81;p;c42;p;c5;p"), "of three with chalk", 5, 1);
        // Those that are void or cut do not count, however low.
        best(Play.game("s0;s42"), "without the joint 0", 1, 0);
        best(Play.game("s0;w0;s30"), "with a seam at 0", 0, 0);
    }

    private static void jointAndPoints() {
        TailorChalks x = Play.game("s41");
        CHECK.due("bestSnip(0)", x.bestSnip(0), 81);
        CHECK.due("bestSnip(1)", x.bestSnip(1), 1);
        // A bluffed joint can be the best one.
        x = Play.game(HALVES + ";s3;s10;s17;b58");
        CHECK.due("bestSnip(0)", x.bestSnip(0), 58);
        CHECK.due("bestSnip(1)", x.bestSnip(1), 12);
        // No points at all, but a joint.
        x = new TailorChalks();
        CHECK.due("bestSnip(0)", x.bestSnip(0), 0);
        CHECK.due("bestSnip(1)", x.bestSnip(1), 0);
    }

    private static void bestSnipOfNeither() {
        TailorChalks[] states = {new TailorChalks(), Play.overByTurns(), Play.overByCells()};
        for (TailorChalks x : states) {
            for (int what : Play.outside(1)) {
                CHECK.due("bestSnip(" + what + ")", x.bestSnip(what), BAD_VALUE);
            }
        }
    }

    private static void noJointCanBeSnipped() {
        best(Play.overByTurns(), "if over by turns", NONE, NONE);
        best(Play.overByTurns("c0;s1"), "if over by turns", NONE, NONE);
        best(Play.overByCells(), "if over by cells", NONE, NONE);
        TailorChalks x = Play.overByTurns();
        x.undo();
        best(x, "in the last turn", 0, 0);
        best(Play.thirteenCells(), "with 13 cells", 17, 1);
    }

    // ---- weak

    private static void jointsByWhichCellsFall() {
        CHECK.due("weak() of the whole cloth", new TailorChalks().weak(), 0);
        CHECK.due("weak() with one cell at a joint", Play.game("s0").weak(), 1);
        CHECK.due("weak() with both ends", Play.game("s0;s41").weak(), 2);
        // The row 0 at one joint: it, and the 7 joints in the row.
        CHECK.due("weak() of a row", Play.game("s43;s44;s45;s46;s47;s48;s49").weak(), 8);
        // 12 cells at one joint, or 13: the greater ones would stay.
        CHECK.due("ifSnipped(53)", Play.game("s46;s47;s48;s49;s10;s50;s51;s52").ifSnipped(53), 12);
        CHECK.due("weak() with 12 cells", Play.game("s46;s47;s48;s49;s10;s50;s51;s52").weak(), 1 + 4);
        CHECK.due("weak() with 13 cells", Play.game("s47;s48;s49;s11;s50;s51;s52;s53").weak(), 3);
        // What 0 leaves of the corner hangs at 42; when it has fallen off, nothing is weak.
        CHECK.due("weak() without the corner", Play.game("s0;s42").weak(), 0);
    }

    private static void onlyJointsThatHold() {
        TailorChalks x = Play.game("s0;w0");
        CHECK.due("weak() with a seam", x.weak(), 0);
        x.snip(42);
        CHECK.due("weak() by the seam itself", x.weak(), 1);
        x = Play.game("s0;b0");
        CHECK.due("weak() with a bluff", x.weak(), 1);
        x = Play.game(HALVES + ";s3;s10;s17");
        CHECK.due("weak()", x.weak(), 0);
        x.bluff(58);
        CHECK.due("ifSnipped(58)", x.ifSnipped(58), 12);
        CHECK.due("weak() with a bluff of 12 cells", x.weak(), 0);
    }

    private static void noneIfOver() {
        TailorChalks x = Play.game("s0");
        Play.pass(x, 198);
        CHECK.due("weak() behind 199 turns", x.weak(), 1);
        x.pass();
        CHECK.due("weak() behind 200 turns", x.weak(), 0);
        x = Play.game(Play.HALF + ";s0;p;s3;s10");
        CHECK.due("weak() ahead of the last snip", x.weak(), 2);
        x.snip(17);
        CHECK.due("count(4)", x.count(4), 12);
        CHECK.due("weak() with 12 cells", x.weak(), 0);
    }

    // ---- together

    private static void byThoseThatHold() {
        TailorChalks x = new TailorChalks();
        CHECK.due("together(0, 47, 0)", x.together(0, 47, 0), 1);
        CHECK.due("together(47, 0, 0)", x.together(47, 0, 0), 1);
        x = Play.game(HALVES);
        CHECK.due("together(23, 24, 0)", x.together(23, 24, 0), 0);
        CHECK.due("together(16, 24, 0) of neighbours", x.together(16, 24, 0), 0);
        CHECK.due("together(0, 23, 0)", x.together(0, 23, 0), 1);
        CHECK.due("together(24, 47, 0)", x.together(24, 47, 0), 1);
        x.sew(65);
        CHECK.due("together(0, 47, 0) by a seam", x.together(0, 47, 0), 1);
        x = Play.game(HALVES + ";b65");
        CHECK.due("together(0, 47, 0) by a bluff", x.together(0, 47, 0), 0);
        CHECK.due("together(0, 47, 0) if over", Play.overByTurns().together(0, 47, 0), 1);
        // The longest way: a cloth cut into one long strip.
        x = Play.game("s42;s43;s44;s45;s46;s47;s48;s51;s52;s53;s54;s55;s56;s57;s58;s59;s60;s61;s62;s63;s64;"
            + "s67;s68;s69;s70;s71;s72;s73;s74;s75;s76;s77;s78;s79;s80");
        CHECK.due("count(4)", x.count(4), 48);
        CHECK.due("together(0, 40, 0) by the strip", x.together(0, 40, 0), 1);
        CHECK.due("together(40, 0, 0) by the strip", x.together(40, 0, 0), 1);
        CHECK.due("cell(0, 1) of the strip", x.cell(0, 1), 48);
    }

    private static void ifBluffsHeld() {
        TailorChalks x = Play.game(HALVES);
        CHECK.due("together(0, 47, 1) without bluff", x.together(0, 47, 1), 0);
        CHECK.due("together(0, 23, 1) without bluff", x.together(0, 23, 1), 1);
        x.bluff(65);
        CHECK.due("together(0, 47, 1) by a bluff", x.together(0, 47, 1), 1);
        CHECK.due("together(47, 0, 1) by a bluff", x.together(47, 0, 1), 1);
        x.doubt(65);
        CHECK.due("together(0, 47, 1) when doubted", x.together(0, 47, 1), 0);
        x.sew(65);
        CHECK.due("together(0, 47, 1) by a seam", x.together(0, 47, 1), 1);
        // Three pieces of 16: by two bluffs, not by one.
        x = Play.game("s50;s51;s52;s53;s54;s55;s56;s57;s66;s67;s68;s69;s70;s71;s72;s73;b50");
        CHECK.due("together(0, 47, 1) by one of two", x.together(0, 47, 1), 0);
        CHECK.due("together(0, 16, 1) by one", x.together(0, 16, 1), 1);
        x.bluff(73);
        CHECK.due("together(0, 47, 1) by two", x.together(0, 47, 1), 1);
        CHECK.due("together(0, 47, 0)", x.together(0, 47, 0), 0);
        // By a bluff at each single joint of a border, the joints 0, 41 and 81 among them.
        int[] leftAndBelow = {0, 7, 14, 21, 28, 75, 76, 77, 78, 79, 80, 81};
        int[] rightAndAbove = {20, 27, 34, 41, 50, 51, 52, 53, 54, 55, 56};
        int[][] borders = {leftAndBelow, rightAndAbove};
        for (int[] border : borders) {
            for (int bluffed : border) {
                x = new TailorChalks();
                Play.snipAll(x, border);
                CHECK.due("count(5)", x.count(5), 2);
                x.bluff(bluffed);
                CHECK.due("together(0, 38, 0) by " + bluffed, x.together(0, 38, 0), 0);
                CHECK.due("together(0, 38, 1) by " + bluffed, x.together(0, 38, 1), 1);
            }
        }
        // The row 3 is gone between two bluffs.
        x = Play.game(HALVES + ";s3;s10;s17;b58;s66;b66;s67;s68;s69;s70;s71;s72;s73");
        CHECK.due("cell(24, 0)", x.cell(24, 0), 1);
        CHECK.due("together(0, 47, 1) by void bluffs", x.together(0, 47, 1), 0);
    }

    private static void bothWays() {
        int[] due = {0, 1};
        for (int way = 0; way <= 1; way++) {
            TailorChalks x = Play.game(HALVES + ";b58;s0;s41");
            CHECK.due("together(16, 24, " + way + ") by a bluff", x.together(16, 24, way), due[way]);
            CHECK.due("together(0, 23, " + way + ") by those that hold", x.together(0, 23, way), 1);
            Play.turns(x, "p;s58");
            CHECK.due("together(16, 24, " + way + ") by nothing", x.together(16, 24, way), 0);
            x.sew(58);
            CHECK.due("together(16, 24, " + way + ") by a seam", x.together(16, 24, way), 1);
        }
    }

    private static void aCellWithItself() {
        TailorChalks x = Play.game("s0");
        CHECK.due("together(0, 0, 0)", x.together(0, 0, 0), 1);
        CHECK.due("together(47, 47, 1)", x.together(47, 47, 1), 1);
        CHECK.due("together(0, 1, 0) by others", x.together(0, 1, 0), 1);
        x = Play.game(HALVES);
        CHECK.due("together(0, 47, 0)", x.together(0, 47, 0), 0);
        CHECK.due("together(0, 47, 1)", x.together(0, 47, 1), 0);
    }

    private static void togetherWithNoCell() {
        TailorChalks x = Play.game("s0;s42");
        for (int cell : Play.outside(47)) {
            for (int way = 0; way <= 1; way++) {
                CHECK.due("together(" + cell + ", 1, " + way + ")", x.together(cell, 1, way), NO_SUCH);
                CHECK.due("together(1, " + cell + ", " + way + ")", x.together(1, cell, way), NO_SUCH);
                CHECK.due("together(" + cell + ", " + cell + ", " + way + ")", x.together(cell, cell, way), NO_SUCH);
                CHECK.due("together(0, " + cell + ", " + way + "), 0 is gone", x.together(0, cell, way), NO_SUCH);
                CHECK.due("together(" + cell + ", 0, " + way + "), 0 is gone", x.together(cell, 0, way), NO_SUCH);
            }
        }
    }

    private static void neitherWay() {
        TailorChalks x = Play.game("s0;s42");
        for (int way : Play.outside(1)) {
            CHECK.due("together(1, 47, " + way + ")", x.together(1, 47, way), BAD_VALUE);
            CHECK.due("together(1, 1, " + way + ")", x.together(1, 1, way), BAD_VALUE);
            CHECK.due("together(0, 1, " + way + "), 0 is gone", x.together(0, 1, way), BAD_VALUE);
        }
    }

    private static void oneOfBothIsGone() {
        TailorChalks x = Play.game("s0;s42;s41;s81");
        for (int way = 0; way <= 1; way++) {
            CHECK.due("together(0, 1, " + way + ")", x.together(0, 1, way), NOT_POSSIBLE);
            CHECK.due("together(1, 0, " + way + ")", x.together(1, 0, way), NOT_POSSIBLE);
            CHECK.due("together(47, 1, " + way + ")", x.together(47, 1, way), NOT_POSSIBLE);
            CHECK.due("together(1, 47, " + way + ")", x.together(1, 47, way), NOT_POSSIBLE);
            CHECK.due("together(0, 47, " + way + ") of two", x.together(0, 47, way), NOT_POSSIBLE);
            CHECK.due("together(0, 0, " + way + ") of itself", x.together(0, 0, way), NOT_POSSIBLE);
            CHECK.due("together(1, 46, " + way + ") of none", x.together(1, 46, way), 1);
        }
        CHECK.due("together(0, 1, 0) if over", Play.overByTurns("s0;s42").together(0, 1, 0), NOT_POSSIBLE);
    }
}
