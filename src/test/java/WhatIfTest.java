/** Promises 13 to 17: what if; nothing changes. */
public final class WhatIfTest {
    private static final int NO_SUCH = -1, BAD_VALUE = -2, NOT_POSSIBLE = -5, NONE = -6;
    private static final int[] NO_JOINTS = {-1, 82, Integer.MIN_VALUE, Integer.MAX_VALUE};
    private static final Check CHECK = new Check("WhatIfTest");

    public static void main(String[] args) {
        why();
        ifSnipped();
        bestSnip();
        bestSnipWithChalk();
        bestSnipOfABluff();
        bestSnipWithWrongInputs();
        weak();
        together();
        togetherWithWrongInputs();
        nothingChanges();
        CHECK.end();
    }

    private static void why() {
        TailorChalks x = new TailorChalks();
        CHECK.due("why(0)", x.why(0), 0);
        CHECK.due("why(81)", x.why(81), 0);
        x.snip(0);
        CHECK.due("why(0) if cut", x.why(0), 3);
        x.bluff(0);
        CHECK.due("why(0) if bluffed", x.why(0), 0);
        x.doubt(0);
        x.sew(0);
        CHECK.due("why(0) if sewn", x.why(0), 0);
        Play.snipAll(x, 0, 42);
        CHECK.due("why(0) if void and cut", x.why(0), 2);
        CHECK.due("why(42) if void and cut", x.why(42), 2);
        Play.snipAll(x, 50, 7);
        CHECK.due("count(4)", x.count(4), 46);
        CHECK.due("why(50) if void", x.why(50), 2);
        x = Play.overByCells();
        CHECK.due("why(0) if over", x.why(0), 1);
        CHECK.due("why(3) if over and void", x.why(3), 1);
        CHECK.due("why(0) if over", Play.overByTurns().why(0), 1);
        for (int joint : NO_JOINTS) {
            CHECK.due("why(" + joint + ")", x.why(joint), NO_SUCH);
            CHECK.due("why(" + joint + ")", new TailorChalks().why(joint), NO_SUCH);
        }
    }

    private static void ifSnipped() {
        TailorChalks x = new TailorChalks();
        CHECK.due("ifSnipped(0)", x.ifSnipped(0), 0);
        x.snip(0);
        CHECK.due("ifSnipped(42)", x.ifSnipped(42), 1);
        CHECK.due("ifSnipped(0) if cut", x.ifSnipped(0), NOT_POSSIBLE);
        x.snip(42);
        CHECK.due("ifSnipped(7)", x.ifSnipped(7), 0);
        CHECK.due("ifSnipped(0) if void", x.ifSnipped(0), NOT_POSSIBLE);
        Play.snipAll(x, 74, 75, 76, 77, 78, 79, 80);
        CHECK.due("ifSnipped(81)", x.ifSnipped(81), 8);
        CHECK.due("snip(81)", x.snip(81), 8);
        x = Play.overByCells();
        CHECK.due("ifSnipped(0) if over", x.ifSnipped(0), NOT_POSSIBLE);
        for (int joint : NO_JOINTS) {
            CHECK.due("ifSnipped(" + joint + ")", x.ifSnipped(joint), NO_SUCH);
            CHECK.due("ifSnipped(" + joint + ")", new TailorChalks().ifSnipped(joint), NO_SUCH);
        }
        x = new TailorChalks();
        // 12 or 13 cells: the row 0 and the cells 8 to 11, or 12.
        Play.snipAll(x, 46, 47, 48, 49, 10, 50, 51, 52);
        CHECK.due("ifSnipped(53) of 12 cells", x.ifSnipped(53), 12);
        x = new TailorChalks();
        Play.snipAll(x, 47, 48, 49, 11, 50, 51, 52, 53);
        CHECK.due("ifSnipped(54) of 13 cells", x.ifSnipped(54), 0);
    }

    private static void best(TailorChalks x, int joint, int points) {
        CHECK.due("bestSnip(0)", x.bestSnip(0), joint);
        CHECK.due("bestSnip(1)", x.bestSnip(1), points);
    }

    private static void bestSnip() {
        TailorChalks x = new TailorChalks();
        best(x, 0, 0);
        x.snip(0);
        best(x, 42, 1);
        x.snip(41);
        // The joint 42 is lower than 81, which gets as many.
        best(x, 42, 1);
        x.snip(42);
        best(x, 81, 1);
        x.snip(81);
        best(x, 1, 0);
        Play.snipAll(x, 5, 48);
        best(x, 49, 2);
        CHECK.due("bestSnip(0) if over", Play.overByTurns().bestSnip(0), NONE);
        CHECK.due("bestSnip(1) if over", Play.overByTurns().bestSnip(1), NONE);
        CHECK.due("bestSnip(0) if over", Play.overByCells().bestSnip(0), NONE);
        CHECK.due("bestSnip(1) if over", Play.overByCells().bestSnip(1), NONE);
    }

    private static void bestSnipWithChalk() {
        TailorChalks x = new TailorChalks();
        x.chalk(50);
        // It is the turn of player 1, who does not know of the chalk.
        best(x, 0, 0);
        x.chalk(60);
        best(x, 50, 1);
        x.pass();
        best(x, 60, 1);
        x.chalk(50);
        best(x, 50, 1);
        x.pass();
        // Both have chalk at 50: what the other one's costs is hidden.
        best(x, 50, 1);
        x.snip(0);
        best(x, 42, 1);
        x.chalk(42);
        best(x, 42, 1);
        x.pass();
        best(x, 42, 2);
        x.snip(42);
        CHECK.due("player(0, 0)", x.player(0, 0), 502);
    }

    private static void bestSnipOfABluff() {
        TailorChalks x = Play.twelveByTwentyFour();
        // A joint in a piece of 12 cells takes a part, the bluffed one all of it.
        x.bluff(58);
        best(x, 58, 12);
        x.doubt(58);
        CHECK.due("of(58, 0)", x.of(58, 0), 1);
        CHECK.due("bestSnip(1)", x.bestSnip(1), 0);
    }

    private static void bestSnipWithWrongInputs() {
        int[] nothings = {-1, 2, Integer.MIN_VALUE, Integer.MAX_VALUE};
        for (int what : nothings) {
            CHECK.due("bestSnip(" + what + ")", new TailorChalks().bestSnip(what), BAD_VALUE);
            CHECK.due("bestSnip(" + what + ") if over", Play.overByTurns().bestSnip(what), BAD_VALUE);
        }
    }

    private static void weak() {
        TailorChalks x = new TailorChalks();
        CHECK.due("weak()", x.weak(), 0);
        x.snip(0);
        CHECK.due("weak()", x.weak(), 1);
        x.snip(41);
        CHECK.due("weak()", x.weak(), 2);
        x.snip(6);
        CHECK.due("weak()", x.weak(), 3);
        x.sew(6);
        CHECK.due("weak() with a seam", x.weak(), 2);
        x.snip(6);
        x.bluff(6);
        CHECK.due("weak() with a bluff", x.weak(), 3);
        // The row 0 hangs at the joint 42 alone, and each of its joints holds what is behind it.
        x = new TailorChalks();
        Play.snipAll(x, 43, 44, 45, 46, 47, 48, 49);
        CHECK.due("weak()", x.weak(), 8);
        x.snip(42);
        CHECK.due("count(4)", x.count(4), 40);
        CHECK.due("weak()", x.weak(), 0);
        // A bluffed joint by whose snip cells would fall off does not hold.
        x = Play.twelveByTwentyFour();
        CHECK.due("weak()", x.weak(), 0);
        x.bluff(58);
        CHECK.due("ifSnipped(58)", x.ifSnipped(58), 12);
        CHECK.due("weak()", x.weak(), 0);
        x.doubt(58);
        x.sew(58);
        CHECK.due("weak()", x.weak(), 1);
        weakWhenOver();
    }

    private static void weakWhenOver() {
        TailorChalks x = new TailorChalks();
        x.snip(0);
        Play.pass(x, 198);
        CHECK.due("weak() at the last turn", x.weak(), 1);
        x.pass();
        CHECK.due("weak() if over", x.weak(), 0);
        x = new TailorChalks();
        Play.snipBelowRow(x, 4);
        Play.snipBelowRow(x, 3);
        Play.snipBelowRow(x, 2);
        Play.snipAll(x, 0, 3, 10);
        CHECK.due("weak()", x.weak(), 2);
        x.snip(17);
        CHECK.due("count(2)", x.count(2), 1);
        CHECK.due("weak() if over", x.weak(), 0);
    }

    private static void together() {
        TailorChalks x = new TailorChalks();
        CHECK.due("together(0, 47, 0)", x.together(0, 47, 0), 1);
        CHECK.due("together(5, 5, 0)", x.together(5, 5, 0), 1);
        CHECK.due("together(5, 5, 1)", x.together(5, 5, 1), 1);
        Play.snipBelowRow(x, 2);
        CHECK.due("together(0, 47, 0)", x.together(0, 47, 0), 0);
        CHECK.due("together(0, 47, 1)", x.together(0, 47, 1), 0);
        CHECK.due("together(0, 23, 0)", x.together(0, 23, 0), 1);
        x.bluff(60);
        CHECK.due("together(0, 47, 0)", x.together(0, 47, 0), 0);
        CHECK.due("together(47, 0, 0)", x.together(47, 0, 0), 0);
        CHECK.due("together(0, 47, 1)", x.together(0, 47, 1), 1);
        CHECK.due("together(47, 0, 1)", x.together(47, 0, 1), 1);
        x.doubt(60);
        CHECK.due("together(0, 47, 1)", x.together(0, 47, 1), 0);
        x.sew(60);
        CHECK.due("together(0, 47, 0)", x.together(0, 47, 0), 1);
        CHECK.due("together(0, 47, 1)", x.together(0, 47, 1), 1);
        CHECK.due("together(0, 1, 0) if over", Play.overByTurns().together(0, 1, 0), 1);
        bluffAcross();
        bluffAtEachJointOfABorder();
        bluffsOfGoneCells();
    }

    private static void bluffAcross() {
        TailorChalks x = new TailorChalks();
        Play.snipAll(x, 3, 10, 17, 24, 31, 38);
        x.bluff(24);
        CHECK.due("together(0, 47, 0)", x.together(0, 47, 0), 0);
        CHECK.due("together(0, 47, 1)", x.together(0, 47, 1), 1);
    }

    private static void bluffAtEachJointOfABorder() {
        // One piece is the column 0 with the rows 4 and 5, the other one is the rest.
        int[] border = {0, 7, 14, 21, 67, 68, 69, 70, 71, 72, 73};
        for (int bluffed : border) {
            TailorChalks x = new TailorChalks();
            Play.snipAll(x, border);
            CHECK.due("cell(0, 1)", x.cell(0, 1), 20);
            CHECK.due("cell(1, 1)", x.cell(1, 1), 28);
            x.snip(52);
            x.bluff(52);
            CHECK.due("together(0, 1, 1)", x.together(0, 1, 1), 0);
            x.bluff(bluffed);
            CHECK.due("together(0, 1, 0)", x.together(0, 1, 0), 0);
            CHECK.due("together(0, 1, 1)", x.together(0, 1, 1), 1);
        }
    }

    private static void bluffsOfGoneCells() {
        TailorChalks x = Play.twelveByTwentyFour();
        // Below the row 2 and below the row 3: the row 3 falls off between two bluffs.
        x.bluff(58);
        x.snip(66);
        x.bluff(66);
        CHECK.due("together(0, 47, 1)", x.together(0, 47, 1), 1);
        Play.snipAll(x, 67, 68, 69, 70, 71, 72, 73);
        CHECK.due("cell(24, 0)", x.cell(24, 0), 1);
        CHECK.due("cell(0, 0)", x.cell(0, 0), 0);
        CHECK.due("cell(47, 0)", x.cell(47, 0), 0);
        CHECK.due("of(58, 0)", x.of(58, 0), 3);
        CHECK.due("together(0, 47, 1)", x.together(0, 47, 1), 0);
        CHECK.due("together(0, 24, 1)", x.together(0, 24, 1), NOT_POSSIBLE);
    }

    private static void togetherWithWrongInputs() {
        TailorChalks x = new TailorChalks();
        Play.snipAll(x, 0, 42);
        int[] noCells = {-1, 48, Integer.MIN_VALUE, Integer.MAX_VALUE};
        for (int cell : noCells) {
            for (int way = -1; way <= 2; way++) {
                CHECK.due("together(" + cell + ", 1, " + way + ")", x.together(cell, 1, way), NO_SUCH);
                CHECK.due("together(0, " + cell + ", " + way + ")", x.together(0, cell, way), NO_SUCH);
            }
        }
        int[] ways = {-1, 2, Integer.MIN_VALUE, Integer.MAX_VALUE};
        for (int way : ways) {
            CHECK.due("together(1, 2, " + way + ")", x.together(1, 2, way), BAD_VALUE);
            CHECK.due("together(0, 1, " + way + ")", x.together(0, 1, way), BAD_VALUE);
        }
        for (int way = 0; way <= 1; way++) {
            CHECK.due("together(0, 1, " + way + ")", x.together(0, 1, way), NOT_POSSIBLE);
            CHECK.due("together(1, 0, " + way + ")", x.together(1, 0, way), NOT_POSSIBLE);
            CHECK.due("together(0, 0, " + way + ")", x.together(0, 0, way), NOT_POSSIBLE);
        }
    }

    private static void nothingChanges() {
        TailorChalks x = Play.twelveByTwentyFour();
        x.bluff(58);
        x.chalk(0);
        Play.type(x, "c1");
        long before = Play.fullPrint(x);
        for (int joint = -1; joint <= 82; joint++) {
            x.why(joint);
            x.ifSnipped(joint);
        }
        x.bestSnip(0);
        x.bestSnip(1);
        x.weak();
        x.together(0, 47, 0);
        x.together(0, 47, 1);
        x.fault();
        CHECK.due("print", Play.fullPrint(x), before);
    }
}
