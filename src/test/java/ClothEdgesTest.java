/** Each sentence of the document's terms of cloth and joints that names a boundary case. */
public final class ClothEdgesTest {
    private static final int NO_SUCH = -1, NOT_POSSIBLE = -5, NONE = -6;
    private static final Check CHECK = new Check("ClothEdgesTest");

    public static void main(String[] args) {
        CHECK.section("Terms");
        CHECK.holds("the cell 8 * row + column, 0 to 47", ClothEdgesTest::firstAndLastCell);
        CHECK.holds("The cloth has 6 rows of 8 columns of cells", ClothEdgesTest::rowsDoNotWrap);
        CHECK.holds("The cloth has 6 rows of 8 columns of cells", ClothEdgesTest::columnsDoNotWrap);
        CHECK.holds("Neighbours in a row or a column have a joint", ClothEdgesTest::neighboursHaveAJoint);
        CHECK.holds("the joint 7 * row + column, 0 to 41, is between a cell and the next one in its row",
            ClothEdgesTest::jointsInRows);
        CHECK.holds("the joint 42 + 8 * row + column, 42 to 81, between a cell and the one below it",
            ClothEdgesTest::jointsInColumns);
        CHECK.holds("A joint is whole (0, at first), cut (1), sewn (2), or bluffed (3).", ClothEdgesTest::statesOfAJoint);
        CHECK.holds("It holds if it is whole or sewn.", ClothEdgesTest::whatHolds);
        CHECK.holds("Cells that fall off are gone", ClothEdgesTest::goneCells);
        CHECK.holds("a joint of a cell that is gone is void", ClothEdgesTest::voidJoints);
        CHECK.holds("a joint of a cell that is gone is void: it does not hold", ClothEdgesTest::voidDoesNotHold);
        CHECK.holds("nothing can be done at it", ClothEdgesTest::nothingAtVoid);
        CHECK.end();
    }

    private static void firstAndLastCell() {
        TailorChalks x = new TailorChalks();
        CHECK.due("cell(0, 1)", x.cell(0, 1), 48);
        CHECK.due("cell(47, 1)", x.cell(47, 1), 48);
        CHECK.due("together(0, 47, 0)", x.together(0, 47, 0), 1);
        for (int cell : Play.outside(47)) {
            CHECK.due("cell(" + cell + ", 1)", x.cell(cell, 1), NO_SUCH);
            CHECK.due("together(" + cell + ", 0, 0)", x.together(cell, 0, 0), NO_SUCH);
            CHECK.due("together(0, " + cell + ", 0)", x.together(0, cell, 0), NO_SUCH);
        }
    }

    /** The last cell of a row and the first one of the next are no neighbours: each falls off alone. */
    private static void rowsDoNotWrap() {
        for (int row = 0; row < 6; row++) {
            TailorChalks x = new TailorChalks();
            int last = 8 * row + 7;
            fallsOff(x, last, new int[] {7 * row + 6, 42 + 8 * (row - 1) + 7, 42 + 8 * row + 7}, row);
            int first = 8 * row;
            fallsOff(new TailorChalks(), first, new int[] {7 * row, 42 + 8 * (row - 1), 42 + 8 * row}, row);
        }
    }

    private static void fallsOff(TailorChalks x, int cell, int[] leftOrRightAboveBelow, int row) {
        int joints = row == 0 || row == 5 ? 2 : 3;
        CHECK.due("cell(" + cell + ", 3)", x.cell(cell, 3), joints);
        int fallen = x.snip(leftOrRightAboveBelow[0]);
        if (row > 0) {
            fallen += x.snip(leftOrRightAboveBelow[1]);
        }
        if (row < 5) {
            fallen += x.snip(leftOrRightAboveBelow[2]);
        }
        CHECK.due("cells that fell off with " + cell, fallen, 1);
        CHECK.due("cell(" + cell + ", 0)", x.cell(cell, 0), 1);
        CHECK.due("count(4)", x.count(4), 47);
    }

    /** The first and the last row are no neighbours: 8 snips take either of them off. */
    private static void columnsDoNotWrap() {
        TailorChalks x = Play.game("s42;s43;s44;s45;s46;s47;s48");
        CHECK.due("snip(49)", x.snip(49), 8);
        CHECK.due("cell(0, 0)", x.cell(0, 0), 1);
        CHECK.due("cell(40, 0)", x.cell(40, 0), 0);
        x = Play.game("s74;s75;s76;s77;s78;s79;s80");
        CHECK.due("snip(81)", x.snip(81), 8);
        CHECK.due("cell(0, 0)", x.cell(0, 0), 0);
        CHECK.due("cell(40, 0)", x.cell(40, 0), 1);
        x = new TailorChalks();
        for (int cell = 0; cell < 8; cell++) {
            int corner = cell == 0 || cell == 7 ? 1 : 0;
            CHECK.due("cell(" + cell + ", 3)", x.cell(cell, 3), 3 - corner);
            CHECK.due("cell(" + (40 + cell) + ", 3)", x.cell(40 + cell, 3), 3 - corner);
        }
    }

    /** One joint for each two neighbours, and no joint for any other two cells. */
    private static void neighboursHaveAJoint() {
        TailorChalks x = new TailorChalks();
        boolean[] known = new boolean[48 * 48];
        for (int joint = 0; joint < 82; joint++) {
            int first = x.of(joint, 2);
            int second = x.of(joint, 3);
            boolean inARow = second == first + 1 && first / 8 == second / 8;
            CHECK.isSo("the cells of " + joint + " are neighbours", inARow || second == first + 8);
            if (first >= 0 && second < 48) {
                CHECK.isSo("the joint " + joint + " is the only one of its cells", !known[48 * first + second]);
                known[48 * first + second] = true;
            }
        }
        int many = 0;
        for (boolean one : known) {
            many += one ? 1 : 0;
        }
        CHECK.due("neighbours with a joint", many, 6 * 7 + 5 * 8);
    }

    private static void ends(TailorChalks x, int joint, int first, int second) {
        CHECK.due("of(" + joint + ", 2)", x.of(joint, 2), first);
        CHECK.due("of(" + joint + ", 3)", x.of(joint, 3), second);
    }

    private static void jointsInRows() {
        TailorChalks x = new TailorChalks();
        ends(x, 0, 0, 1);
        ends(x, 6, 6, 7);
        // The next joint is in the next row: there is none between the cells 7 and 8.
        ends(x, 7, 8, 9);
        ends(x, 13, 14, 15);
        ends(x, 14, 16, 17);
        ends(x, 34, 38, 39);
        ends(x, 35, 40, 41);
        ends(x, 41, 46, 47);
        CHECK.due("of(-1, 2)", x.of(-1, 2), NO_SUCH);
        for (int joint = 0; joint <= 41; joint++) {
            ends(x, joint, 8 * (joint / 7) + joint % 7, 8 * (joint / 7) + joint % 7 + 1);
        }
    }

    private static void jointsInColumns() {
        TailorChalks x = new TailorChalks();
        ends(x, 42, 0, 8);
        ends(x, 49, 7, 15);
        ends(x, 50, 8, 16);
        ends(x, 74, 32, 40);
        ends(x, 81, 39, 47);
        CHECK.due("of(82, 2)", x.of(82, 2), NO_SUCH);
        CHECK.due("of(82, 3)", x.of(82, 3), NO_SUCH);
        for (int joint = 42; joint <= 81; joint++) {
            ends(x, joint, joint - 42, joint - 34);
        }
    }

    private static void statesOfAJoint() {
        TailorChalks x = new TailorChalks();
        for (int joint = 0; joint < 82; joint++) {
            CHECK.due("of(" + joint + ", 0) at first", x.of(joint, 0), 0);
        }
        int[] ends = {0, 41, 42, 81};
        for (int joint : ends) {
            x = new TailorChalks();
            x.snip(joint);
            CHECK.due("of(" + joint + ", 0) if cut", x.of(joint, 0), 1);
            x.sew(joint);
            CHECK.due("of(" + joint + ", 0) if sewn", x.of(joint, 0), 2);
            x.snip(joint);
            x.bluff(joint);
            CHECK.due("of(" + joint + ", 0) if bluffed", x.of(joint, 0), 3);
        }
    }

    private static void whatHolds() {
        int[] ends = {0, 41, 42, 81};
        for (int joint : ends) {
            TailorChalks x = new TailorChalks();
            holds(x, joint, "if whole", 1);
            x.snip(joint);
            holds(x, joint, "if cut", 0);
            x.bluff(joint);
            holds(x, joint, "if bluffed", 0);
            x.doubt(joint);
            holds(x, joint, "if cut again", 0);
            x.sew(joint);
            holds(x, joint, "if sewn", 1);
            x.pass();
            x.pass();
            x.doubt(joint);
            holds(x, joint, "if sewn and doubted", 1);
        }
    }

    private static void holds(TailorChalks x, int joint, String when, int due) {
        CHECK.due("of(" + joint + ", 6) " + when, x.of(joint, 6), due);
        int end = x.of(joint, 2);
        CHECK.due("cell(" + end + ", 3) " + when, x.cell(end, 3), new TailorChalks().cell(end, 3) - 1 + due);
    }

    private static void goneCells() {
        TailorChalks x = Play.game(Play.RAG_WITH_ALL);
        for (int cell = 0; cell < 48; cell++) {
            int gone = cell < 16 && cell % 8 < 6 ? 1 : 0;
            CHECK.due("cell(" + cell + ", 0)", x.cell(cell, 0), gone);
        }
        CHECK.due("count(4)", x.count(4), 36);
        CHECK.due("cell(0, 1) if gone", x.cell(0, 1), 0);
        CHECK.due("cell(0, 2) if gone", x.cell(0, 2), NONE);
        CHECK.due("cell(0, 3) if gone", x.cell(0, 3), 0);
        CHECK.due("together(0, 1, 0) if gone", x.together(0, 1, 0), NOT_POSSIBLE);
    }

    private static void voidJoints() {
        // The first cell of 6 and 41 stays, or the second one of 0 and 42.
        corner("s0;s42", 0, 0, 42, 1, 43);
        corner("s6;s49", 7, 6, 49, 5, 48);
        corner("s35;s74", 40, 35, 74, 36, 75);
        corner("s41;s81", 47, 41, 81, 40, 80);
    }

    private static void corner(String snips, int cell, int beside, int upright, int near, int nearUpright) {
        TailorChalks x = Play.game(snips);
        CHECK.due("cell(" + cell + ", 0)", x.cell(cell, 0), 1);
        CHECK.due("of(" + beside + ", 1)", x.of(beside, 1), 1);
        CHECK.due("of(" + upright + ", 1)", x.of(upright, 1), 1);
        CHECK.due("of(" + near + ", 1)", x.of(near, 1), 0);
        CHECK.due("of(" + nearUpright + ", 1)", x.of(nearUpright, 1), 0);
        int many = 0;
        for (int joint = 0; joint < 82; joint++) {
            many += x.of(joint, 1);
        }
        CHECK.due("joints that are void with " + cell, many, 2);
    }

    private static void voidDoesNotHold() {
        TailorChalks x = Play.game(Play.RAG_WITH_ALL);
        int[] inside = {0, 2, 4, 7, 8, 10, 42, 47};
        for (int joint : inside) {
            CHECK.due("of(" + joint + ", 1)", x.of(joint, 1), 1);
            CHECK.due("of(" + joint + ", 6)", x.of(joint, 6), 0);
        }
        CHECK.due("of(0, 0), which is whole", x.of(0, 0), 0);
        CHECK.due("of(2, 0), which is sewn", x.of(2, 0), 2);
        CHECK.due("of(6, 6) between cells that stay", x.of(6, 6), 1);
    }

    private static void nothingAtVoid() {
        for (int next = 0; next <= 1; next++) {
            TailorChalks x = Play.game(next == 0 ? Play.RAG_WITH_ALL : Play.RAG_WITH_ALL + ";p");
            CHECK.due("count(1)", x.count(1), next);
            // All joints of the rag: in it, on its right, and below it.
            int[] joints = {0, 1, 2, 3, 4, 5, 7, 8, 9, 10, 11, 12, 42, 43, 44, 45, 46, 47, 50, 51, 52, 53, 54, 55};
            for (int joint : joints) {
                CHECK.due("chalk(" + joint + ")", x.chalk(joint), NOT_POSSIBLE);
                CHECK.due("snip(" + joint + ")", x.snip(joint), NOT_POSSIBLE);
                CHECK.due("sew(" + joint + ")", x.sew(joint), NOT_POSSIBLE);
                CHECK.due("bluff(" + joint + ")", x.bluff(joint), NOT_POSSIBLE);
                CHECK.due("doubt(" + joint + ")", x.doubt(joint), NOT_POSSIBLE);
            }
            CHECK.due("count(0)", x.count(0), 18 + next);
        }
    }
}
