/** Promises 22 to 24: undo, saving. */
public final class UndoTest {
    private static final int BAD_VALUE = -2, NOT_POSSIBLE = -5, NONE = -6;
    private static final int[] NO_SLOTS = {-1, 2, Integer.MIN_VALUE, Integer.MAX_VALUE};
    private static final Check CHECK = new Check("UndoTest");

    public static void main(String[] args) {
        undoOfEachChange();
        sixStates();
        undoWithoutHistory();
        undoLeavesPadAndSlots();
        whatIsNoChange();
        undoBringsChalkBack();
        undoAtEachJoint();
        undoOfDoubts();
        errorsLeaveTheHistory();
        save();
        saveOverwrites();
        restore();
        restoreIsAChange();
        restoreKeepsTheSlot();
        wrongSlots();
        CHECK.end();
    }

    private static void undoOfEachChange() {
        String[] changes = {"c9", "s8", "w8", "d8", "s7", "b7"};
        for (int undone = 1; undone <= changes.length; undone++) {
            TailorChalks x = new TailorChalks();
            TailorChalks y = new TailorChalks();
            for (int change = 0; change < changes.length; change++) {
                Play.turns(x, changes[change]);
                if (change < changes.length - undone) {
                    Play.turns(y, changes[change]);
                }
            }
            for (int left = 5; left >= changes.length - undone; left--) {
                CHECK.due("undo()", x.undo(), left);
                CHECK.due("count(10)", x.count(10), left);
            }
            CHECK.due("print behind " + undone, Play.print(x), Play.print(y));
        }
        CHECK.due("undo()", new TailorChalks().undo(), NOT_POSSIBLE);
    }

    private static void sixStates() {
        TailorChalks x = new TailorChalks();
        for (int change = 1; change <= 20; change++) {
            x.pass();
            CHECK.due("count(10)", x.count(10), Math.min(change, 6));
        }
        for (int left = 5; left >= 0; left--) {
            CHECK.due("undo()", x.undo(), left);
            CHECK.due("count(0)", x.count(0), 14 + left);
        }
        CHECK.due("undo()", x.undo(), NOT_POSSIBLE);
        CHECK.due("count(0)", x.count(0), 14);
        x.pass();
        CHECK.due("undo()", x.undo(), 0);
        CHECK.due("count(0)", x.count(0), 14);
    }

    private static void undoWithoutHistory() {
        TailorChalks x = new TailorChalks();
        long before = Play.fullPrint(x);
        CHECK.due("undo()", x.undo(), NOT_POSSIBLE);
        CHECK.due("print", Play.fullPrint(x), before);
    }

    private static void undoLeavesPadAndSlots() {
        TailorChalks x = new TailorChalks();
        x.snip(0);
        x.save(1);
        Play.type(x, "p;c1");
        CHECK.due("undo()", x.undo(), 0);
        CHECK.due("count(9)", x.count(9), 4);
        CHECK.due("fault()", x.fault(), -6);
        CHECK.due("restore(1)", x.restore(1), 48);
        CHECK.due("of(0, 0)", x.of(0, 0), 1);
        Play.type(x, ";c2");
        CHECK.due("carryOut()", x.carryOut(), 3);
        CHECK.due("undo()", x.undo(), 1);
        CHECK.due("count(9)", x.count(9), 0);
    }

    private static void whatIsNoChange() {
        TailorChalks x = new TailorChalks();
        x.pass();
        x.save(0);
        x.put('p');
        x.wipe();
        x.snip(-1);
        x.sew(0);
        x.carryOut();
        x.restore(1);
        x.restore(2);
        CHECK.due("count(10)", x.count(10), 1);
        CHECK.due("undo()", x.undo(), 0);
        CHECK.due("count(0)", x.count(0), 0);
    }

    private static void undoBringsChalkBack() {
        TailorChalks x = new TailorChalks();
        int[] joints = {6, 49, 5};
        for (int joint : joints) {
            x.chalk(joint);
            x.chalk(joint);
        }
        long before = Play.print(x);
        x.snip(6);
        x.snip(49);
        CHECK.due("count(4)", x.count(4), 47);
        CHECK.due("player(0, 2)", x.player(0, 2), 1);
        x.undo();
        x.undo();
        CHECK.due("print", Play.print(x), before);
        for (int rank = 0; rank < joints.length; rank++) {
            CHECK.due("chalked(0, " + rank + ")", x.chalked(0, rank), joints[rank]);
            CHECK.due("chalked(1, " + rank + ")", x.chalked(1, rank), joints[rank]);
        }
    }

    private static void undoAtEachJoint() {
        for (int joint = 0; joint < 82; joint++) {
            TailorChalks x = Play.game("s" + joint + ";b" + joint + ";d" + joint + ";w" + joint);
            undone(x, joint, 3, 1, NONE);
            undone(x, joint, 2, 3, 1);
            undone(x, joint, 1, 1, NONE);
            undone(x, joint, 0, 0, NONE);
            CHECK.due("print at " + joint, Play.print(x), Play.print(new TailorChalks()));
        }
    }

    private static void undone(TailorChalks x, int joint, int left, int how, int maker) {
        CHECK.due("undo() at " + joint, x.undo(), left);
        CHECK.due("of(" + joint + ", 0) then", x.of(joint, 0), how);
        CHECK.due("of(" + joint + ", 5) then", x.of(joint, 5), maker);
        CHECK.due("of(" + joint + ", 6) then", x.of(joint, 6), how == 0 ? 1 : 0);
    }

    private static void undoOfDoubts() {
        TailorChalks x = new TailorChalks();
        Play.snipAll(x, 20, 21);
        x.bluff(20);
        x.save(0);
        x.doubt(20);
        CHECK.due("player(1, 6)", x.player(1, 6), 1);
        x.undo();
        CHECK.due("player(1, 6)", x.player(1, 6), 0);
        x.doubt(20);
        x.restore(0);
        CHECK.due("player(1, 6)", x.player(1, 6), 0);
        x.sew(21);
        x.doubt(21);
        CHECK.due("player(0, 7)", x.player(0, 7), 1);
        x.undo();
        CHECK.due("player(0, 7)", x.player(0, 7), 0);
    }

    private static void errorsLeaveTheHistory() {
        TailorChalks x = new TailorChalks();
        for (int change = 1; change <= 20; change++) {
            x.pass();
            x.snip(-1);
            x.sew(0);
        }
        for (int left = 5; left >= 0; left--) {
            x.snip(82);
            CHECK.due("undo()", x.undo(), left);
            CHECK.due("count(0)", x.count(0), 14 + left);
        }
    }

    private static void save() {
        TailorChalks x = new TailorChalks();
        long before = Play.fullPrint(x);
        CHECK.due("save(0)", x.save(0), 48);
        CHECK.due("print", Play.fullPrint(x), before);
        CHECK.due("restore(1)", x.restore(1), NOT_POSSIBLE);
        Play.snipAll(x, 0, 42);
        CHECK.due("save(1)", x.save(1), 47);
        CHECK.due("save(1) if over", Play.overByCells().save(1), 12);
        CHECK.due("restore(0)", x.restore(0), 48);
        CHECK.due("restore(1)", x.restore(1), 47);
        x = Play.overByTurns();
        CHECK.due("save(0) if over", x.save(0), 48);
        CHECK.due("restore(0) if over", x.restore(0), 48);
        CHECK.due("count(0)", x.count(0), 200);
    }

    private static void saveOverwrites() {
        TailorChalks x = new TailorChalks();
        x.pass();
        x.save(0);
        x.pass();
        x.save(0);
        x.pass();
        CHECK.due("restore(0)", x.restore(0), 48);
        CHECK.due("count(0)", x.count(0), 2);
    }

    private static void restore() {
        TailorChalks x = new TailorChalks();
        x.chalk(3);
        x.snip(0);
        x.bluff(0);
        x.chalk(9);
        x.sew(0);
        long saved = Play.print(x);
        x.save(1);
        Play.snipAll(x, 42, 9, 3);
        x.pass();
        Play.type(x, "p");
        CHECK.due("restore(1)", x.restore(1), 48);
        CHECK.due("print", Play.print(x), saved);
        CHECK.due("count(9)", x.count(9), 1);
        CHECK.due("restore(0)", x.restore(0), NOT_POSSIBLE);
    }

    private static void restoreIsAChange() {
        TailorChalks x = new TailorChalks();
        x.save(0);
        x.pass();
        x.snip(0);
        long before = Play.print(x);
        CHECK.due("restore(0)", x.restore(0), 48);
        CHECK.due("count(10)", x.count(10), 3);
        CHECK.due("count(0)", x.count(0), 0);
        CHECK.due("undo()", x.undo(), 2);
        CHECK.due("print", Play.print(x), before);
        for (int i = 0; i < 10; i++) {
            x.restore(0);
        }
        CHECK.due("count(10)", x.count(10), 6);
        CHECK.due("restore(1)", x.restore(1), NOT_POSSIBLE);
        CHECK.due("count(10)", x.count(10), 6);
        CHECK.due("undo()", x.undo(), 5);
    }

    private static void restoreKeepsTheSlot() {
        TailorChalks x = new TailorChalks();
        x.snip(5);
        x.save(0);
        long saved = Play.print(x);
        x.restore(0);
        x.snip(6);
        x.snip(7);
        x.undo();
        x.chalk(8);
        CHECK.due("restore(0)", x.restore(0), 48);
        CHECK.due("print", Play.print(x), saved);
    }

    private static void wrongSlots() {
        TailorChalks x = new TailorChalks();
        x.pass();
        x.save(0);
        x.save(1);
        long before = Play.fullPrint(x);
        for (int slot : NO_SLOTS) {
            CHECK.due("save(" + slot + ")", x.save(slot), BAD_VALUE);
            CHECK.due("restore(" + slot + ")", x.restore(slot), BAD_VALUE);
        }
        CHECK.due("print", Play.fullPrint(x), before);
    }
}
