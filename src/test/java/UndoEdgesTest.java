import java.util.function.Consumer;

/** Each sentence of the promises 22 to 24 that names a boundary case: undo, saving. */
public final class UndoEdgesTest {
    private static final int BAD_VALUE = -2, NOT_POSSIBLE = -5, NONE = -6;

    /** Chalk of both, a rag, a seam, a bluff, and doubts of both kinds; player 1 is next. */
    private static final String MUCH = "c30;c30;s0;s42;s20;w20;d20;s21;b21;d21;b21;s22;s23;p;w23";
    private static final Check CHECK = new Check("UndoEdgesTest");

    public static void main(String[] args) {
        undo();
        save();
        restore();
        CHECK.end();
    }

    private static void undo() {
        CHECK.section("Promise 22: undo");
        CHECK.holds("Undoes the latest change", UndoEdgesTest::latestChange);
        CHECK.holds("everything except the pad, the slots and the history is as it was before it", UndoEdgesTest::asItWas);
        CHECK.holds("everything except the pad", UndoEdgesTest::padStays);
        CHECK.holds("except the pad, the slots", UndoEdgesTest::slotsStay);
        CHECK.holds("A history of at most 6 states is kept", UndoEdgesTest::sixStates);
        CHECK.holds("each method that is a change, and returns no error, records the state before it",
            UndoEdgesTest::whatRecords);
        CHECK.holds("and returns no error", UndoEdgesTest::errorsRecordNothing);
        CHECK.holds("(also if nothing is different then)", UndoEdgesTest::alsoIfNothingIsDifferent);
        CHECK.holds("when one more is recorded, the oldest one is dropped", UndoEdgesTest::oldestIsDropped);
        CHECK.holds("An order of a text records nothing by itself.", UndoEdgesTest::ordersRecordNothing);
        CHECK.holds("Returns how many changes can be undone then", UndoEdgesTest::howManyAreLeft);
        CHECK.holds("NOT_POSSIBLE if there is none", UndoEdgesTest::nothingToUndo);
    }

    private static void save() {
        CHECK.section("Promise 23: save");
        CHECK.holds("Saves everything except the pad, the history and the slots in a slot", UndoEdgesTest::whatIsSaved);
        CHECK.holds("and overwrites what was saved there", UndoEdgesTest::saveOverwrites);
        CHECK.holds("0 or 1", UndoEdgesTest::twoSlots);
        CHECK.holds("Returns how many cells are left", UndoEdgesTest::saveAnswersCells);
        CHECK.holds("BAD_VALUE if there is no such slot", UndoEdgesTest::saveInNoSlot);
    }

    private static void restore() {
        CHECK.section("Promise 24: restore");
        CHECK.holds("Restores what was saved last in a slot", UndoEdgesTest::savedLast);
        CHECK.holds("which keeps it", UndoEdgesTest::slotKeepsIt);
        CHECK.holds("This is a change.", UndoEdgesTest::restoreIsAChange);
        CHECK.holds("0 or 1", UndoEdgesTest::restoreOfTheOtherSlot);
        CHECK.holds("Returns how many cells are left then", UndoEdgesTest::restoreAnswersCells);
        CHECK.holds("BAD_VALUE if there is no such slot", UndoEdgesTest::restoreOfNoSlot);
        CHECK.holds("NOT_POSSIBLE if nothing was saved in it", UndoEdgesTest::nothingWasSaved);
    }

    private static void same(String what, TailorChalks x, TailorChalks y) {
        CHECK.isSo(what, Play.print(x) == Play.print(y));
    }

    // ---- undo

    private static void latestChange() {
        TailorChalks x = Play.game("s1;s2;s3");
        CHECK.due("undo()", x.undo(), 2);
        CHECK.due("of(3, 0)", x.of(3, 0), 0);
        CHECK.due("of(2, 0)", x.of(2, 0), 1);
        CHECK.due("undo()", x.undo(), 1);
        CHECK.due("of(2, 0)", x.of(2, 0), 0);
        CHECK.due("of(1, 0)", x.of(1, 0), 1);
        // Undo itself is no change: what it undid does not come back.
        CHECK.due("undo()", x.undo(), 0);
        CHECK.due("of(1, 0)", x.of(1, 0), 0);
        CHECK.due("count(6)", x.count(6), 0);
        // Behind an undo, the next change is the latest one.
        x = Play.game("s1;s2");
        x.undo();
        x.snip(5);
        CHECK.due("undo()", x.undo(), 1);
        CHECK.due("of(5, 0)", x.of(5, 0), 0);
        CHECK.due("of(1, 0)", x.of(1, 0), 1);
    }

    private static void asItWas() {
        String[] turns = {"c31", "s30", "s43", "s20", "s21", "w22", "b22", "d21", "d23", "p"};
        for (String turn : turns) {
            TailorChalks x = Play.game(MUCH);
            Play.turns(x, turn);
            CHECK.due("undo() of " + turn, x.undo(), 5);
            same("all as before " + turn, x, Play.game(MUCH));
        }
        // A rag of 12 cells with chalk of both, all kinds of joints, and the end of the game.
        String rag = Play.RAG_WITH_ALL.substring(0, Play.RAG_WITH_ALL.lastIndexOf(';'));
        TailorChalks x = Play.game("c0;c0;" + rag);
        CHECK.due("snip(55)", x.snip(55), 12);
        CHECK.due("undo()", x.undo(), 5);
        same("all as before the rag", x, Play.game("c0;c0;" + rag));
        x = Play.game(Play.HALF + ";s3;s10");
        CHECK.due("snip(17)", x.snip(17), 12);
        CHECK.due("count(2)", x.count(2), 1);
        CHECK.due("undo()", x.undo(), 5);
        same("all as before the end", x, Play.game(Play.HALF + ";s3;s10"));
        CHECK.due("snip(17) once more", x.snip(17), 12);
    }

    private static void padStays() {
        TailorChalks x = Play.game("s1");
        Play.type(x, "s2;s3");
        CHECK.due("undo()", x.undo(), 0);
        CHECK.due("count(9)", x.count(9), 5);
        CHECK.due("carryOut()", x.carryOut(), 2);
        CHECK.due("of(1, 0)", x.of(1, 0), 0);
        CHECK.due("of(3, 0)", x.of(3, 0), 1);
        // What carryOut() emptied stays empty, what was wiped, too.
        CHECK.due("undo()", x.undo(), 0);
        CHECK.due("count(9)", x.count(9), 0);
        x.pass();
        x.put('p');
        x.wipe();
        CHECK.due("undo()", x.undo(), 0);
        CHECK.due("count(9)", x.count(9), 0);
    }

    private static void slotsStay() {
        TailorChalks x = Play.game("s1");
        x.save(0);
        x.pass();
        x.save(0);
        CHECK.due("undo()", x.undo(), 1);
        CHECK.due("undo()", x.undo(), 0);
        CHECK.due("restore(0)", x.restore(0), 48);
        CHECK.due("count(0)", x.count(0), 2);
        CHECK.due("of(1, 0)", x.of(1, 0), 1);
        CHECK.due("undo() of restore(0)", x.undo(), 0);
        CHECK.due("restore(1)", x.restore(1), NOT_POSSIBLE);
        CHECK.due("restore(0)", x.restore(0), 48);
        CHECK.due("count(0)", x.count(0), 2);
    }

    private static void sixStates() {
        for (int changes = 0; changes <= 8; changes++) {
            TailorChalks x = new TailorChalks();
            Play.pass(x, changes);
            int kept = Math.min(6, changes);
            CHECK.due("count(10) behind " + changes, x.count(10), kept);
            for (int left = kept - 1; left >= 0; left--) {
                CHECK.due("undo() behind " + changes, x.undo(), left);
                CHECK.due("count(0)", x.count(0), changes - kept + left);
            }
            CHECK.due("undo() behind " + changes, x.undo(), NOT_POSSIBLE);
            CHECK.due("count(0)", x.count(0), changes - kept);
        }
    }

    private static void records(String state, String call, Consumer<TailorChalks> calls, int due) {
        TailorChalks x = Play.game(state);
        x.save(0);
        int before = x.count(10);
        calls.accept(x);
        CHECK.due("changes that " + call + " recorded", x.count(10) - before, due);
    }

    private static void whatRecords() {
        String state = "s1;s2;b2";
        records(state, "chalk(0)", x -> x.chalk(0), 1);
        records(state, "snip(0)", x -> x.snip(0), 1);
        records(state, "sew(1)", x -> x.sew(1), 1);
        records(state, "bluff(1)", x -> x.bluff(1), 1);
        records(state, "doubt(2)", x -> x.doubt(2), 1);
        records(state, "pass()", x -> x.pass(), 1);
        records(state, "carryOut() of p", x -> {
            x.put('p');
            x.carryOut();
        }, 1);
        records(state, "restore(0)", x -> x.restore(0), 1);
        records(state, "save(0)", x -> x.save(0), 0);
        records(state, "put('p')", x -> x.put('p'), 0);
        records(state, "wipe()", x -> x.wipe(), 0);
        records(state, "undo()", x -> x.undo(), -1);
        records(state, "questions", x -> {
            x.of(0, 0);
            x.cell(0, 0);
            x.player(0, 0);
            x.chalked(0, 0);
            x.count(0);
            x.why(0);
            x.ifSnipped(0);
            x.bestSnip(0);
            x.weak();
            x.together(0, 1, 1);
            x.fault();
        }, 0);
    }

    private static void errorsRecordNothing() {
        String state = "s1;s2;b2";
        records(state, "chalk(1)", x -> x.chalk(1), 0);
        records(state, "chalk(82)", x -> x.chalk(82), 0);
        records(state, "snip(1)", x -> x.snip(1), 0);
        records(state, "sew(0)", x -> x.sew(0), 0);
        records(state, "bluff(0)", x -> x.bluff(0), 0);
        records(state, "doubt(1)", x -> x.doubt(1), 0);
        records(state, "carryOut() of no text", x -> x.carryOut(), 0);
        records(state, "carryOut() of a fault", x -> {
            x.put('x');
            x.carryOut();
        }, 0);
        records(state, "restore(1)", x -> x.restore(1), 0);
        records(state, "restore(2)", x -> x.restore(2), 0);
        TailorChalks x = Play.overByTurns();
        x.undo();
        x.pass();
        x.pass();
        CHECK.due("count(10) behind pass() if over", x.count(10), 6);
        CHECK.due("undo()", x.undo(), 5);
        CHECK.due("count(0)", x.count(0), 199);
        // With a full history, an error drops nothing.
        x = Play.game("s1;s2;s3;s4;s5;s6");
        x.snip(1);
        x.restore(0);
        x.carryOut();
        for (int left = 5; left >= 0; left--) {
            CHECK.due("undo()", x.undo(), left);
        }
        CHECK.due("count(0)", x.count(0), 0);
    }

    private static void alsoIfNothingIsDifferent() {
        TailorChalks x = new TailorChalks();
        x.save(0);
        CHECK.due("restore(0) of the same", x.restore(0), 48);
        CHECK.due("count(10)", x.count(10), 1);
        Play.type(x, "s82");
        CHECK.due("carryOut() of none", x.carryOut(), 0);
        CHECK.due("count(10)", x.count(10), 2);
        CHECK.due("undo()", x.undo(), 1);
        CHECK.due("undo()", x.undo(), 0);
        CHECK.due("undo()", x.undo(), NOT_POSSIBLE);
        // They drop older states as well.
        x.pass();
        x.save(0);
        for (int change = 0; change < 6; change++) {
            x.restore(0);
        }
        for (int left = 5; left >= 0; left--) {
            CHECK.due("undo()", x.undo(), left);
            CHECK.due("count(0)", x.count(0), 1);
        }
        CHECK.due("undo() of the pass", x.undo(), NOT_POSSIBLE);
    }

    private static void oldestIsDropped() {
        TailorChalks x = Play.game("s1;s2;s3;s4;s5;s6;s8");
        CHECK.due("count(10)", x.count(10), 6);
        for (int left = 5; left >= 0; left--) {
            CHECK.due("undo()", x.undo(), left);
        }
        CHECK.due("undo() of the first snip", x.undo(), NOT_POSSIBLE);
        same("only the first snip is left", x, Play.game("s1"));
        // Again and again: 50 changes, some of them undone between.
        x = new TailorChalks();
        for (int round = 0; round < 10; round++) {
            Play.pass(x, 7);
            x.undo();
            x.undo();
        }
        CHECK.due("count(0)", x.count(0), 50);
        CHECK.due("count(10)", x.count(10), 4);
        for (int left = 3; left >= 0; left--) {
            CHECK.due("undo()", x.undo(), left);
            CHECK.due("count(0)", x.count(0), 46 + left);
        }
        CHECK.due("undo()", x.undo(), NOT_POSSIBLE);
    }

    private static void ordersRecordNothing() {
        TailorChalks x = Play.game("s1");
        Play.type(x, "s2;s3;s4;s5;s6;s8;s9;s10");
        CHECK.due("carryOut()", x.carryOut(), 8);
        CHECK.due("count(10)", x.count(10), 2);
        CHECK.due("undo()", x.undo(), 1);
        same("all orders are undone at once", x, Play.game("s1"));
        CHECK.due("undo()", x.undo(), 0);
        CHECK.due("count(0)", x.count(0), 0);
        x = Play.typed("p;".repeat(39) + "p");
        CHECK.due("carryOut() of 40", x.carryOut(), 40);
        CHECK.due("undo()", x.undo(), 0);
        CHECK.due("count(0)", x.count(0), 0);
    }

    private static void howManyAreLeft() {
        TailorChalks x = Play.game("s1;s2;s3;s4;s5;s6;s8");
        for (int left = 5; left >= 0; left--) {
            CHECK.due("undo()", x.undo(), left);
            CHECK.due("count(10)", x.count(10), left);
        }
        x.pass();
        CHECK.due("undo() of one", x.undo(), 0);
    }

    private static void nothingToUndo() {
        TailorChalks x = new TailorChalks();
        CHECK.due("undo() at first", x.undo(), NOT_POSSIBLE);
        x.pass();
        CHECK.due("undo() of one", x.undo(), 0);
        CHECK.due("undo() of none", x.undo(), NOT_POSSIBLE);
        CHECK.due("undo() of none", x.undo(), NOT_POSSIBLE);
        CHECK.due("count(10)", x.count(10), 0);
        CHECK.due("count(0)", x.count(0), 0);
        // It does not go below: the next change can be undone.
        x.pass();
        CHECK.due("count(10)", x.count(10), 1);
        CHECK.due("undo()", x.undo(), 0);
    }

    // ---- save

    private static void whatIsSaved() {
        TailorChalks x = Play.game(MUCH);
        Play.type(x, "s82;");
        x.save(1);
        x.wipe();
        Play.turns(x, "c33;s43;s30");
        Play.type(x, "p;p");
        CHECK.due("restore(1)", x.restore(1), 47);
        same("all as it was saved", x, Play.game(MUCH));
        // The pad is the newer one, and the history has what was done since.
        CHECK.due("count(9)", x.count(9), 3);
        CHECK.due("fault()", x.fault(), NONE);
        CHECK.due("count(10)", x.count(10), 6);
        CHECK.due("undo()", x.undo(), 5);
        CHECK.due("count(0)", x.count(0), 18);
        // The other slot is not in it.
        x = new TailorChalks();
        x.save(0);
        x.pass();
        x.save(1);
        x.pass();
        x.restore(0);
        x.restore(1);
        CHECK.due("count(0)", x.count(0), 1);
    }

    private static void saveOverwrites() {
        TailorChalks x = Play.game("s1");
        x.save(0);
        x.save(1);
        x.snip(2);
        x.save(0);
        x.snip(3);
        CHECK.due("restore(0)", x.restore(0), 48);
        CHECK.due("count(0)", x.count(0), 2);
        CHECK.due("restore(1)", x.restore(1), 48);
        CHECK.due("count(0)", x.count(0), 1);
        // An earlier state overwrites a later one.
        x.save(0);
        x.snip(4);
        CHECK.due("restore(0)", x.restore(0), 48);
        same("the earlier one", x, Play.game("s1"));
    }

    private static void twoSlots() {
        TailorChalks x = new TailorChalks();
        CHECK.due("save(0)", x.save(0), 48);
        x.pass();
        CHECK.due("save(1)", x.save(1), 48);
        x.pass();
        CHECK.due("restore(0)", x.restore(0), 48);
        CHECK.due("count(0)", x.count(0), 0);
        CHECK.due("restore(1)", x.restore(1), 48);
        CHECK.due("count(0)", x.count(0), 1);
        CHECK.due("save(-1)", x.save(-1), BAD_VALUE);
        CHECK.due("save(2)", x.save(2), BAD_VALUE);
    }

    private static void saveAnswersCells() {
        CHECK.due("save(0) of all", new TailorChalks().save(0), 48);
        CHECK.due("save(0) without a corner", Play.game("s0;s42").save(0), 47);
        CHECK.due("save(1) of two pieces", Play.twelveByTwentyFour().save(1), 36);
        CHECK.due("save(1) with 13 cells", Play.thirteenCells().save(1), 13);
        CHECK.due("save(0) with 12 cells", Play.overByCells().save(0), 12);
        CHECK.due("save(0) if over", Play.overByTurns().save(0), 48);
    }

    private static void saveInNoSlot() {
        TailorChalks x = Play.game("s1");
        x.save(0);
        x.save(1);
        x.snip(2);
        for (int slot : Play.outside(1)) {
            CHECK.due("save(" + slot + ")", x.save(slot), BAD_VALUE);
        }
        CHECK.due("restore(0)", x.restore(0), 48);
        CHECK.due("count(0)", x.count(0), 1);
        CHECK.due("restore(1)", x.restore(1), 48);
        CHECK.due("count(0)", x.count(0), 1);
    }

    // ---- restore

    private static void savedLast() {
        TailorChalks x = Play.game(MUCH);
        x.save(0);
        Play.turns(x, "c33;s43;s30");
        CHECK.due("restore(0)", x.restore(0), 47);
        same("all as it was saved", x, Play.game(MUCH));
        // From a game that is over into one that is not, and back.
        x = new TailorChalks();
        x.save(0);
        Play.pass(x, 200);
        x.save(1);
        CHECK.due("restore(0) if over", x.restore(0), 48);
        CHECK.due("count(2)", x.count(2), 0);
        CHECK.due("pass()", x.pass(), 1);
        CHECK.due("restore(1)", x.restore(1), 48);
        CHECK.due("count(2)", x.count(2), 1);
        CHECK.due("pass() if over", x.pass(), NOT_POSSIBLE);
        // Cells that are gone come back, and go again.
        x = new TailorChalks();
        x.save(0);
        Play.turns(x, "s0;s42");
        x.save(1);
        CHECK.due("restore(0)", x.restore(0), 48);
        CHECK.due("cell(0, 0)", x.cell(0, 0), 0);
        CHECK.due("restore(1)", x.restore(1), 47);
        CHECK.due("cell(0, 0)", x.cell(0, 0), 1);
    }

    private static void slotKeepsIt() {
        TailorChalks x = Play.game("s1");
        x.save(0);
        for (int round = 0; round < 3; round++) {
            Play.turns(x, "c30;s0");
            CHECK.due("restore(0)", x.restore(0), 48);
            CHECK.due("count(0)", x.count(0), 1);
            CHECK.due("of(0, 0)", x.of(0, 0), 0);
            CHECK.due("player(1, 2)", x.player(1, 2), 0);
        }
        same("the slot is as it was saved", x, Play.game("s1"));
        // Undo behind a restore does not change the slot either.
        x.undo();
        x.undo();
        x.pass();
        CHECK.due("restore(0)", x.restore(0), 48);
        same("the slot is as it was saved", x, Play.game("s1"));
    }

    private static void restoreIsAChange() {
        TailorChalks x = new TailorChalks();
        x.save(0);
        Play.turns(x, "s1;s2");
        CHECK.due("restore(0)", x.restore(0), 48);
        CHECK.due("count(10)", x.count(10), 3);
        CHECK.due("undo()", x.undo(), 2);
        same("all as before restore(0)", x, Play.game("s1;s2"));
        // It is the seventh change: the oldest state is dropped.
        x = new TailorChalks();
        x.save(0);
        Play.pass(x, 6);
        CHECK.due("restore(0)", x.restore(0), 48);
        CHECK.due("count(10)", x.count(10), 6);
        for (int left = 5; left >= 0; left--) {
            CHECK.due("undo()", x.undo(), left);
            CHECK.due("count(0)", x.count(0), left + 1);
        }
        CHECK.due("undo()", x.undo(), NOT_POSSIBLE);
    }

    private static void restoreOfTheOtherSlot() {
        TailorChalks x = new TailorChalks();
        x.save(1);
        CHECK.due("restore(0)", x.restore(0), NOT_POSSIBLE);
        CHECK.due("restore(1)", x.restore(1), 48);
        x = new TailorChalks();
        x.save(0);
        CHECK.due("restore(1)", x.restore(1), NOT_POSSIBLE);
        CHECK.due("restore(0)", x.restore(0), 48);
        CHECK.due("restore(2)", x.restore(2), BAD_VALUE);
        CHECK.due("restore(-1)", x.restore(-1), BAD_VALUE);
    }

    private static void restoreAnswersCells() {
        TailorChalks x = Play.thirteenCells();
        x.save(0);
        Play.turns(x, "s0;s42");
        x.save(1);
        CHECK.due("restore(0) with 13 cells", x.restore(0), 13);
        CHECK.due("restore(1) with 12 cells", x.restore(1), 12);
        CHECK.due("count(2)", x.count(2), 1);
        CHECK.due("restore(0) with 13 cells", x.restore(0), 13);
        CHECK.due("count(2)", x.count(2), 0);
    }

    private static void restoreOfNoSlot() {
        TailorChalks[] states = {new TailorChalks(), Play.overByTurns()};
        for (TailorChalks x : states) {
            int kept = x.count(10);
            for (int slot : Play.outside(1)) {
                CHECK.due("restore(" + slot + ")", x.restore(slot), BAD_VALUE);
            }
            x.save(0);
            x.save(1);
            for (int slot : Play.outside(1)) {
                CHECK.due("restore(" + slot + ")", x.restore(slot), BAD_VALUE);
            }
            CHECK.due("count(10)", x.count(10), kept);
        }
    }

    private static void nothingWasSaved() {
        TailorChalks x = new TailorChalks();
        CHECK.due("restore(0)", x.restore(0), NOT_POSSIBLE);
        CHECK.due("restore(1)", x.restore(1), NOT_POSSIBLE);
        CHECK.due("count(10)", x.count(10), 0);
        // A save that failed saved nothing; neither does a change or an undo.
        x.save(2);
        x.pass();
        x.undo();
        CHECK.due("restore(0)", x.restore(0), NOT_POSSIBLE);
        x.save(0);
        CHECK.due("restore(1)", x.restore(1), NOT_POSSIBLE);
        CHECK.due("restore(0)", x.restore(0), 48);
    }
}
