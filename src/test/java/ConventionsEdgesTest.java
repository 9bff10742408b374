import java.util.function.Supplier;
import java.util.function.ToIntFunction;

/** Each sentence of the document's conventions that names a boundary case. */
public final class ConventionsEdgesTest {
    private static final int NO_SUCH = -1, BAD_VALUE = -2, BAD_TEXT = -3, TOO_MANY = -4, NOT_POSSIBLE = -5, NONE = -6;
    private static final String FULL_PAD = "p;".repeat(40);
    private static final Check CHECK = new Check("ConventionsEdgesTest");

    public static void main(String[] args) {
        CHECK.section("What it is");
        CHECK.holds("An object is used for at most 512 calls after it has been made", ConventionsEdgesTest::manyCalls);
        CHECK.section("The public face");
        CHECK.holds("NO_SUCH = -1, BAD_VALUE = -2, BAD_TEXT = -3, TOO_MANY = -4, NOT_POSSIBLE = -5, NONE = -6",
            ConventionsEdgesTest::constants);
        CHECK.section("Terms");
        CHECK.holds("it names its errors in the order in which they are checked, and the first one that applies is returned",
            ConventionsEdgesTest::firstErrorOfTurns);
        CHECK.holds("the first one that applies is returned", ConventionsEdgesTest::firstErrorOfTheOthers);
        CHECK.holds("A call that returns an error changes nothing.", ConventionsEdgesTest::errorsAtFirst);
        CHECK.holds("A call that returns an error changes nothing.", ConventionsEdgesTest::errorsAmidAGame);
        CHECK.holds("A call that returns an error changes nothing.", ConventionsEdgesTest::errorsAtLimits);
        CHECK.holds("A call that returns an error changes nothing.", ConventionsEdgesTest::errorsWhenOver);
        CHECK.holds("NONE (-6) is not an error; it is returned only if no error applies.",
            ConventionsEdgesTest::noneIsNoError);
        CHECK.holds("Everything is numbered from 0.", ConventionsEdgesTest::numberedFromZero);
        CHECK.holds("Sets of players are bit masks.", ConventionsEdgesTest::setsOfPlayers);
        CHECK.holds("Points can be below 0, and are told with an offset.", ConventionsEdgesTest::pointsBelowZero);
        CHECK.end();
    }

    /** The last of 512 calls is answered as the first ones are. */
    private static void manyCalls() {
        TailorChalks x = new TailorChalks();
        for (int call = 1; call < 512; call += 2) {
            CHECK.due("put('p') as the call " + call, x.put('p'), 1);
            CHECK.due("carryOut() as the call " + (call + 1), x.carryOut(), call < 400 ? 1 : 0);
        }
        x = new TailorChalks();
        for (int call = 1; call < 512; call += 2) {
            CHECK.due("snip(20) as the call " + call, x.snip(20), 0);
            CHECK.due("undo() as the call " + (call + 1), x.undo(), 0);
        }
        x = new TailorChalks();
        x.save(1);
        for (int call = 2; call < 512; call++) {
            CHECK.due("restore(1) as the call " + call, x.restore(1), 48);
        }
        CHECK.due("undo() as the call 512", x.undo(), 5);
    }

    private static void constants() {
        CHECK.due("NO_SUCH", TailorChalks.NO_SUCH, NO_SUCH);
        CHECK.due("BAD_VALUE", TailorChalks.BAD_VALUE, BAD_VALUE);
        CHECK.due("BAD_TEXT", TailorChalks.BAD_TEXT, BAD_TEXT);
        CHECK.due("TOO_MANY", TailorChalks.TOO_MANY, TOO_MANY);
        CHECK.due("NOT_POSSIBLE", TailorChalks.NOT_POSSIBLE, NOT_POSSIBLE);
        CHECK.due("NONE", TailorChalks.NONE, NONE);
    }

    private static void firstErrorOfTurns() {
        TailorChalks[] overs = {Play.overByTurns(), Play.overByCells()};
        for (TailorChalks x : overs) {
            CHECK.due("chalk(82) if over", x.chalk(82), NO_SUCH);
            CHECK.due("snip(82) if over", x.snip(82), NO_SUCH);
            CHECK.due("sew(82) if over", x.sew(82), NO_SUCH);
            CHECK.due("bluff(82) if over", x.bluff(82), NO_SUCH);
            CHECK.due("doubt(82) if over", x.doubt(82), NO_SUCH);
        }
        TailorChalks x = withoutThreads();
        CHECK.due("sew(-1) without thread", x.sew(-1), NO_SUCH);
        x = eightChalked();
        CHECK.due("chalk(82) with 8", x.chalk(82), NO_SUCH);
        CHECK.due("chalk(30) with 8, if chalked", x.chalk(30), NOT_POSSIBLE);
        CHECK.due("chalk(0) with 8, if void", x.chalk(0), NOT_POSSIBLE);
        CHECK.due("chalk(20) with 8, if cut", x.chalk(20), NOT_POSSIBLE);
        CHECK.due("chalk(21) with 8, if bluffed", x.chalk(21), NOT_POSSIBLE);
        CHECK.due("chalk(22) with 8", x.chalk(22), TOO_MANY);
        Play.pass(x, 200 - x.count(0));
        CHECK.due("chalk(22) with 8, if over", x.chalk(22), NOT_POSSIBLE);
    }

    private static void firstErrorOfTheOthers() {
        TailorChalks x = Play.game("s0;s42");
        CHECK.due("of(82, 7)", x.of(82, 7), NO_SUCH);
        CHECK.due("cell(48, 4)", x.cell(48, 4), NO_SUCH);
        CHECK.due("player(2, 8)", x.player(2, 8), NO_SUCH);
        CHECK.due("together(48, 0, 2), 0 is gone", x.together(48, 0, 2), NO_SUCH);
        CHECK.due("together(0, -1, 2), 0 is gone", x.together(0, -1, 2), NO_SUCH);
        CHECK.due("together(48, 0, 0), 0 is gone", x.together(48, 0, 0), NO_SUCH);
        CHECK.due("together(0, 48, 1), 0 is gone", x.together(0, 48, 1), NO_SUCH);
        CHECK.due("together(0, 1, 2), 0 is gone", x.together(0, 1, 2), BAD_VALUE);
        CHECK.due("together(1, 0, -1), 0 is gone", x.together(1, 0, -1), BAD_VALUE);
        CHECK.due("restore(2), nothing saved", x.restore(2), BAD_VALUE);
        x = Play.typed(FULL_PAD);
        CHECK.due("put(0) on a full pad", x.put(0), BAD_VALUE);
        CHECK.due("put(127) on a full pad", x.put(127), BAD_VALUE);
        CHECK.due("put(33 << 8) on a full pad", x.put(33 << 8), BAD_VALUE);
        x = Play.overByTurns();
        CHECK.due("bestSnip(2) if over", x.bestSnip(2), BAD_VALUE);
        CHECK.due("ifSnipped(82) if over", x.ifSnipped(82), NO_SUCH);
        CHECK.due("why(82) if over", x.why(82), NO_SUCH);
    }

    // ---- errors change nothing

    /** The call answers this error, and leaves the object as another one that came there, too. */
    private static void leaves(Supplier<TailorChalks> state, String call, ToIntFunction<TailorChalks> calls, int due) {
        TailorChalks x = state.get();
        CHECK.due(call, calls.applyAsInt(x), due);
        CHECK.isSo(call + " leaves all as it was", Play.deepPrint(x) == Play.deepPrint(state.get()));
    }

    private static void errorsAtFirst() {
        Supplier<TailorChalks> first = TailorChalks::new;
        leaves(first, "chalk(82)", x -> x.chalk(82), NO_SUCH);
        leaves(first, "snip(-1)", x -> x.snip(-1), NO_SUCH);
        leaves(first, "sew(82)", x -> x.sew(82), NO_SUCH);
        leaves(first, "bluff(-1)", x -> x.bluff(-1), NO_SUCH);
        leaves(first, "doubt(82)", x -> x.doubt(82), NO_SUCH);
        leaves(first, "sew(9) if whole", x -> x.sew(9), NOT_POSSIBLE);
        leaves(first, "bluff(9) if whole", x -> x.bluff(9), NOT_POSSIBLE);
        leaves(first, "doubt(9) if whole", x -> x.doubt(9), NOT_POSSIBLE);
        leaves(first, "of(82, 0)", x -> x.of(82, 0), NO_SUCH);
        leaves(first, "of(0, 7)", x -> x.of(0, 7), BAD_VALUE);
        leaves(first, "cell(48, 0)", x -> x.cell(48, 0), NO_SUCH);
        leaves(first, "cell(0, 4)", x -> x.cell(0, 4), BAD_VALUE);
        leaves(first, "player(2, 0)", x -> x.player(2, 0), NO_SUCH);
        leaves(first, "player(0, 8)", x -> x.player(0, 8), BAD_VALUE);
        leaves(first, "chalked(2, 0)", x -> x.chalked(2, 0), NO_SUCH);
        leaves(first, "chalked(0, 0)", x -> x.chalked(0, 0), NO_SUCH);
        leaves(first, "count(11)", x -> x.count(11), BAD_VALUE);
        leaves(first, "why(82)", x -> x.why(82), NO_SUCH);
        leaves(first, "ifSnipped(82)", x -> x.ifSnipped(82), NO_SUCH);
        leaves(first, "bestSnip(2)", x -> x.bestSnip(2), BAD_VALUE);
        leaves(first, "together(48, 0, 0)", x -> x.together(48, 0, 0), NO_SUCH);
        leaves(first, "together(0, 1, 2)", x -> x.together(0, 1, 2), BAD_VALUE);
        leaves(first, "put(0)", x -> x.put(0), BAD_VALUE);
        leaves(first, "carryOut() of no text", x -> x.carryOut(), BAD_TEXT);
        leaves(first, "undo() of nothing", x -> x.undo(), NOT_POSSIBLE);
        leaves(first, "save(2)", x -> x.save(2), BAD_VALUE);
        leaves(first, "restore(2)", x -> x.restore(2), BAD_VALUE);
        leaves(first, "restore(0) of nothing", x -> x.restore(0), NOT_POSSIBLE);
    }

    /** Joints in all states, void ones too, a text with a fault on the pad, and the slot 0 filled. */
    private static TailorChalks amidAGame() {
        TailorChalks x = Play.game("c60");
        x.save(0);
        Play.turns(x, Play.RAG_WITH_ALL + ";s20;s21;s22;w20;b21;c61");
        Play.type(x, "s30;c100");
        return x;
    }

    private static void errorsAmidAGame() {
        Supplier<TailorChalks> amid = ConventionsEdgesTest::amidAGame;
        CHECK.due("count(1)", amid.get().count(1), 1);
        leaves(amid, "chalk(22) if cut", x -> x.chalk(22), NOT_POSSIBLE);
        leaves(amid, "chalk(21) if bluffed", x -> x.chalk(21), NOT_POSSIBLE);
        leaves(amid, "chalk(0) if void", x -> x.chalk(0), NOT_POSSIBLE);
        leaves(amid, "snip(22) if cut", x -> x.snip(22), NOT_POSSIBLE);
        leaves(amid, "snip(0) if void", x -> x.snip(0), NOT_POSSIBLE);
        leaves(amid, "sew(20) if sewn", x -> x.sew(20), NOT_POSSIBLE);
        leaves(amid, "sew(21) if bluffed", x -> x.sew(21), NOT_POSSIBLE);
        leaves(amid, "sew(5) if void", x -> x.sew(5), NOT_POSSIBLE);
        leaves(amid, "bluff(21) if bluffed", x -> x.bluff(21), NOT_POSSIBLE);
        leaves(amid, "bluff(20) if sewn", x -> x.bluff(20), NOT_POSSIBLE);
        leaves(amid, "bluff(5) if void", x -> x.bluff(5), NOT_POSSIBLE);
        leaves(amid, "doubt(22) if cut", x -> x.doubt(22), NOT_POSSIBLE);
        leaves(amid, "doubt(2) if void", x -> x.doubt(2), NOT_POSSIBLE);
        leaves(amid, "doubt(21) of the own seam", x -> x.doubt(21), NOT_POSSIBLE);
        leaves(amid, "ifSnipped(22) if cut", x -> x.ifSnipped(22), NOT_POSSIBLE);
        leaves(amid, "ifSnipped(0) if void", x -> x.ifSnipped(0), NOT_POSSIBLE);
        leaves(amid, "together(0, 47, 1), 0 is gone", x -> x.together(0, 47, 1), NOT_POSSIBLE);
        leaves(amid, "put(9)", x -> x.put(9), BAD_VALUE);
        leaves(amid, "carryOut() with a fault", x -> x.carryOut(), BAD_TEXT);
        leaves(amid, "restore(1) of nothing", x -> x.restore(1), NOT_POSSIBLE);
        leaves(amid, "save(-1)", x -> x.save(-1), BAD_VALUE);
        leaves(amid, "restore(-1)", x -> x.restore(-1), BAD_VALUE);
    }

    /** Player 0 has all 8 chalks, and is next; 0 is void, 20 cut, 21 bluffed. */
    private static TailorChalks eightChalked() {
        return Play.game("c30;s0;c31;s42;c32;s20;c33;s21;c34;b21;c35;p;c36;p;c37;p");
    }

    /** Player 0 has no thread any more, and is next; 5 is cut, 0 to 4 are sewn. */
    private static TailorChalks withoutThreads() {
        return Play.game("s0;s1;s2;s3;s4;s5;w0;p;w1;p;w2;p;w3;p;w4;p");
    }

    private static TailorChalks fullPad() {
        return Play.typed(FULL_PAD);
    }

    private static void errorsAtLimits() {
        leaves(ConventionsEdgesTest::eightChalked, "chalk(22) with 8", x -> x.chalk(22), TOO_MANY);
        leaves(ConventionsEdgesTest::eightChalked, "chalk(30) with 8", x -> x.chalk(30), NOT_POSSIBLE);
        leaves(ConventionsEdgesTest::withoutThreads, "sew(5) without thread", x -> x.sew(5), NOT_POSSIBLE);
        leaves(ConventionsEdgesTest::fullPad, "put('p') on a full pad", x -> x.put('p'), TOO_MANY);
        leaves(ConventionsEdgesTest::fullPad, "put(8 characters) on a full pad",
            x -> x.put(Play.packed("p;p;p;p;")), TOO_MANY);
        leaves(ConventionsEdgesTest::fullPad, "put(32) on a full pad", x -> x.put(32), BAD_VALUE);
        leaves(ConventionsEdgesTest::fullPad, "carryOut() of a full pad with a fault", x -> x.carryOut(), BAD_TEXT);
        leaves(() -> Play.typed("p;p;p;p;".repeat(9) + "p;p;p;p"), "put(2 characters) where 1 fits",
            x -> x.put(Play.packed(";p")), TOO_MANY);
    }

    private static void errorsWhenOver() {
        // In both, player 0 is next, the joint 0 is sewn by player 1, 1 bluffed by player 1, 2 cut, 8 whole.
        errorsWhenOver(() -> Play.overByTurns("s0;s1;s2;w0;p;b1"));
        errorsWhenOver(() -> Play.overByCells("s0;s1;s2;w0;p;b1;p"));
    }

    private static void errorsWhenOver(Supplier<TailorChalks> over) {
        CHECK.due("count(1)", over.get().count(1), 0);
        CHECK.due("count(2)", over.get().count(2), 1);
        leaves(over, "chalk(8) if over", x -> x.chalk(8), NOT_POSSIBLE);
        leaves(over, "snip(8) if over", x -> x.snip(8), NOT_POSSIBLE);
        leaves(over, "sew(2) if over", x -> x.sew(2), NOT_POSSIBLE);
        leaves(over, "bluff(2) if over", x -> x.bluff(2), NOT_POSSIBLE);
        leaves(over, "doubt(0) if over", x -> x.doubt(0), NOT_POSSIBLE);
        leaves(over, "doubt(1) if over", x -> x.doubt(1), NOT_POSSIBLE);
        leaves(over, "pass() if over", x -> x.pass(), NOT_POSSIBLE);
        leaves(over, "ifSnipped(8) if over", x -> x.ifSnipped(8), NOT_POSSIBLE);
    }

    // ---- the others

    private static void noneIsNoError() {
        TailorChalks x = Play.game("s0;s42");
        CHECK.due("of(82, 5)", x.of(82, 5), NO_SUCH);
        CHECK.due("of(81, 5) of nobody", x.of(81, 5), NONE);
        CHECK.due("cell(48, 2)", x.cell(48, 2), NO_SUCH);
        CHECK.due("cell(0, 2) if gone", x.cell(0, 2), NONE);
        CHECK.due("count(3) if not over", x.count(3), NONE);
        x = Play.overByTurns();
        CHECK.due("bestSnip(-1) if over", x.bestSnip(-1), BAD_VALUE);
        CHECK.due("bestSnip(0) if over", x.bestSnip(0), NONE);
        CHECK.due("bestSnip(1) if over", x.bestSnip(1), NONE);
        CHECK.due("fault() of a right text", Play.typed("p").fault(), NONE);
    }

    private static void numberedFromZero() {
        TailorChalks x = new TailorChalks();
        x.chalk(0);
        x.save(0);
        CHECK.due("of(0, 0)", x.of(0, 0), 0);
        CHECK.due("of(-1, 0)", x.of(-1, 0), NO_SUCH);
        CHECK.due("of(0, -1)", x.of(0, -1), BAD_VALUE);
        CHECK.due("cell(0, 0)", x.cell(0, 0), 0);
        CHECK.due("cell(-1, 0)", x.cell(-1, 0), NO_SUCH);
        CHECK.due("cell(0, -1)", x.cell(0, -1), BAD_VALUE);
        CHECK.due("player(0, 0)", x.player(0, 0), 500);
        CHECK.due("player(-1, 0)", x.player(-1, 0), NO_SUCH);
        CHECK.due("player(0, -1)", x.player(0, -1), BAD_VALUE);
        CHECK.due("chalked(0, 0)", x.chalked(0, 0), 0);
        CHECK.due("chalked(0, 1)", x.chalked(0, 1), NO_SUCH);
        CHECK.due("chalked(0, -1)", x.chalked(0, -1), NO_SUCH);
        CHECK.due("count(0)", x.count(0), 1);
        CHECK.due("count(-1)", x.count(-1), BAD_VALUE);
        CHECK.due("why(0)", x.why(0), 0);
        CHECK.due("why(-1)", x.why(-1), NO_SUCH);
        CHECK.due("together(0, 0, 0)", x.together(0, 0, 0), 1);
        CHECK.due("together(0, 0, -1)", x.together(0, 0, -1), BAD_VALUE);
        CHECK.due("restore(0)", x.restore(0), 48);
        CHECK.due("restore(-1)", x.restore(-1), BAD_VALUE);
    }

    private static void setsOfPlayers() {
        TailorChalks x = Play.game("c20;c21;c22;c22");
        CHECK.due("of(19, 4) of nobody", x.of(19, 4), 0);
        CHECK.due("of(20, 4) of player 0", x.of(20, 4), 1);
        CHECK.due("of(21, 4) of player 1", x.of(21, 4), 2);
        CHECK.due("of(22, 4) of both", x.of(22, 4), 3);
    }

    private static void pointsBelowZero() {
        TailorChalks x = Play.game("s20;w20;d20");
        CHECK.due("player(0, 0) of -2", x.player(0, 0), 498);
        CHECK.due("player(1, 0) of 0", x.player(1, 0), 500);
        x = Play.game("c20;s20");
        CHECK.due("player(1, 0) of -3", x.player(1, 0), 497);
        // The eight joints do not let anything fall off: 8 times 3 points less.
        x = Play.game("c0;p;c2;p;c4;p;c6;p;c28;p;c30;p;c32;p;c34;s0;p;s2;p;s4;p;s6;p;s28;p;s30;p;s32;p;s34");
        CHECK.due("player(1, 0) of -24", x.player(1, 0), 476);
        CHECK.due("player(0, 0) of 0", x.player(0, 0), 500);
        Play.pass(x, 200 - x.count(0));
        CHECK.due("count(3) of 0 and -24", x.count(3), 0);
        x = Play.overByTurns("c20;s20;s21;w21;d21");
        CHECK.due("player(0, 0) of -2", x.player(0, 0), 498);
        CHECK.due("count(3) of -2 and -3", x.count(3), 0);
    }
}
