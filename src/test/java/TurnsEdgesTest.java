/** Each sentence of the promises 1 to 7 that names a boundary case: a new object, the turns. */
public final class TurnsEdgesTest {
    private static final int NO_SUCH = -1, BAD_TEXT = -3, TOO_MANY = -4, NOT_POSSIBLE = -5, NONE = -6;

    /** The joint 0 is sewn by player 1, 1 bluffed by player 1, 2 cut, 8 whole. */
    private static final String SEAMS = "s0;s1;s2;w0;p;b1";
    private static final Check CHECK = new Check("TurnsEdgesTest");

    public static void main(String[] args) {
        CHECK.section("Texts");
        CHECK.holds("turns; each of these is a change, of the player whose turn it is", TurnsEdgesTest::ofThePlayerWhoseTurnItIs);
        CHECK.section("Promise 1: A new object");
        CHECK.holds("Creates a whole cloth", TurnsEdgesTest::newCloth);
        CHECK.holds("the player 0 is next", TurnsEdgesTest::newGame);
        chalk();
        snip();
        sew();
        bluff();
        doubt();
        pass();
        CHECK.end();
    }

    private static void chalk() {
        CHECK.section("Promise 2: chalk");
        CHECK.holds("Returns how many joints have chalk of this player then", TurnsEdgesTest::chalkAnswersHowMany);
        CHECK.holds("NO_SUCH if there is no such joint", () -> noSuchJoint('c'));
        CHECK.holds("NOT_POSSIBLE if the game is over", () -> whenOver('c', 8));
        CHECK.holds("the joint is void", () -> atVoidJoints('c'));
        CHECK.holds("does not hold", TurnsEdgesTest::chalkWhereItDoesNotHold);
        CHECK.holds("or has chalk of this player", TurnsEdgesTest::chalkOfThisPlayer);
        CHECK.holds("TOO_MANY if 8 have", TurnsEdgesTest::chalkIfEightHave);
    }

    private static void snip() {
        CHECK.section("Promise 3: snip");
        CHECK.holds("Returns how many cells fall off", TurnsEdgesTest::snipAnswersHowMany);
        CHECK.holds("NO_SUCH if there is no such joint", () -> noSuchJoint('s'));
        CHECK.holds("NOT_POSSIBLE if it cannot be snipped, as why() tells", TurnsEdgesTest::snipAsWhyTells);
    }

    private static void sew() {
        CHECK.section("Promise 4: sew");
        CHECK.holds("Returns how many threads are left", TurnsEdgesTest::sewAnswersThreads);
        CHECK.holds("NO_SUCH if there is no such joint", () -> noSuchJoint('w'));
        CHECK.holds("NOT_POSSIBLE if the game is over", () -> whenOver('w', 2));
        CHECK.holds("the joint is void", () -> atVoidJoints('w'));
        CHECK.holds("or not cut", () -> notCut('w'));
        CHECK.holds("or no thread is left", TurnsEdgesTest::sewWithoutThread);
    }

    private static void bluff() {
        CHECK.section("Promise 5: bluff");
        CHECK.holds("Returns how many joints are bluffed then", TurnsEdgesTest::bluffAnswersHowMany);
        CHECK.holds("NO_SUCH if there is no such joint", () -> noSuchJoint('b'));
        CHECK.holds("NOT_POSSIBLE if the game is over", () -> whenOver('b', 2));
        CHECK.holds("the joint is void", () -> atVoidJoints('b'));
        CHECK.holds("or not cut", () -> notCut('b'));
    }

    private static void doubt() {
        CHECK.section("Promise 6: doubt");
        CHECK.holds("Returns 1 if it was bluffed, 0 if it was sewn", TurnsEdgesTest::doubtAnswers);
        CHECK.holds("NO_SUCH if there is no such joint", () -> noSuchJoint('d'));
        CHECK.holds("NOT_POSSIBLE if the game is over", () -> whenOver('d', 0));
        CHECK.holds("NOT_POSSIBLE if the game is over", () -> whenOver('d', 1));
        CHECK.holds("the joint is void", () -> atVoidJoints('d'));
        CHECK.holds("or not one that the other player sewed or bluffed last", TurnsEdgesTest::doubtOfWhatTheOtherDidNot);
        CHECK.holds("and that was not doubted", TurnsEdgesTest::doubtOfTheDoubted);
    }

    private static void pass() {
        CHECK.section("Promise 7: pass");
        CHECK.holds("Returns the player who is next", TurnsEdgesTest::passAnswersWhoIsNext);
        CHECK.holds("NOT_POSSIBLE if the game is over", () -> whenOver('p', 0));
    }

    // ---- for several of them

    private static void noSuchJoint(char kind) {
        TailorChalks[] states = {new TailorChalks(), Play.game(Play.RAG_WITH_ALL), Play.game(SEAMS)};
        for (TailorChalks x : states) {
            int turns = x.count(0);
            for (int joint : Play.outside(81)) {
                CHECK.due(kind + "(" + joint + ")", Play.turn(x, kind, joint), NO_SUCH);
            }
            CHECK.due("count(0)", x.count(0), turns);
        }
        // The first and the last joint are there: to them, it is not this error.
        for (int joint = 0; joint <= 81; joint += 81) {
            TailorChalks x = new TailorChalks();
            if (kind == 'w' || kind == 'b') {
                x.snip(joint);
            } else if (kind == 'd') {
                Play.turns(x, "s" + joint + ";b" + joint);
            }
            CHECK.isSo(kind + "(" + joint + ")", Play.turn(x, kind, joint) >= 0);
        }
    }

    /** In the turn before, it could still be done. */
    private static void whenOver(char kind, int joint) {
        TailorChalks x = Play.game(SEAMS + ";p");
        Play.pass(x, 193);
        CHECK.due("count(0)", x.count(0), 200);
        CHECK.due(kind + " at " + joint + " behind 200 turns", Play.turn(x, kind, joint), NOT_POSSIBLE);
        x.undo();
        x.undo();
        CHECK.due("count(0)", x.count(0), 198);
        CHECK.isSo(kind + " at " + joint + " behind 198 turns", Play.turn(x, kind, joint) >= 0);
        x = Play.overByCells(SEAMS + ";p");
        CHECK.due("count(4)", x.count(4), 12);
        CHECK.due("count(1)", x.count(1), 0);
        CHECK.due(kind + " at " + joint + " with 12 cells", Play.turn(x, kind, joint), NOT_POSSIBLE);
        x.undo();
        x.pass();
        CHECK.due("count(4)", x.count(4), 24);
        CHECK.isSo(kind + " at " + joint + " with 24 cells", Play.turn(x, kind, joint) >= 0);
    }

    private static void atVoidJoints(char kind) {
        int[] joints = {0, 1, 2, 3, 8, 11, 5, 12, 42, 47, 50, 55};
        for (int next = 0; next <= 1; next++) {
            TailorChalks x = Play.game(next == 0 ? Play.RAG_WITH_ALL : Play.RAG_WITH_ALL + ";p");
            for (int joint : joints) {
                CHECK.due("of(" + joint + ", 1)", x.of(joint, 1), 1);
                CHECK.due(kind + " at " + joint, Play.turn(x, kind, joint), NOT_POSSIBLE);
            }
            CHECK.due("count(0)", x.count(0), 18 + next);
        }
        // Here it is the second cell of the joint that is gone.
        TailorChalks x = Play.game("s6;s49;s41;s81");
        int[] seconds = {6, 41, 81};
        for (int joint : seconds) {
            CHECK.due(kind + " at " + joint, Play.turn(x, kind, joint), NOT_POSSIBLE);
        }
    }

    private static void notCut(char kind) {
        int[] ends = {0, 41, 42, 81};
        for (int joint : ends) {
            TailorChalks x = new TailorChalks();
            CHECK.due(kind + " at " + joint + " if whole", Play.turn(x, kind, joint), NOT_POSSIBLE);
            Play.turns(x, "s" + joint + ";w" + joint);
            CHECK.due(kind + " at " + joint + " if sewn", Play.turn(x, kind, joint), NOT_POSSIBLE);
            Play.turns(x, "s" + joint + ";b" + joint);
            CHECK.due(kind + " at " + joint + " if bluffed", Play.turn(x, kind, joint), NOT_POSSIBLE);
            x.doubt(joint);
            CHECK.isSo(kind + " at " + joint + " if cut", Play.turn(x, kind, joint) >= 0);
        }
    }

    /** What each kind of turn does is done for its player and not for the other one, and is one change. */
    private static void ofThePlayerWhoseTurnItIs() {
        for (int next = 0; next <= 1; next++) {
            // The joint 1 is cut, 2 sewn by player 0, 3 bluffed by player 1; the cell 0 hangs at 42 alone.
            String turns = "s1;s2;w2;s3;p;b3;s0" + (next == 0 ? ";p" : "");
            byItsPlayer(Play.game(turns), next, 'c', 20, 2, 1);
            byItsPlayer(Play.game(turns), next, 's', 42, 3, 1);
            byItsPlayer(Play.game(turns), next, 's', 42, 0, 1);
            byItsPlayer(Play.game(turns), next, 'w', 1, 1, -1);
            byItsPlayer(Play.game(turns), next, 'd', 3 - next, next == 0 ? 6 : 7, 1);
            byItsPlayer(Play.game(turns), next, 'd', 3 - next, 0, next == 0 ? 2 : -2);
            TailorChalks x = Play.game(turns);
            x.bluff(1);
            CHECK.due("of(1, 5) bluffed by player " + next, x.of(1, 5), next);
            x = Play.game(turns);
            x.sew(1);
            CHECK.due("of(1, 5) sewn by player " + next, x.of(1, 5), next);
        }
    }

    private static void byItsPlayer(TailorChalks x, int next, char kind, int joint, int what, int more) {
        CHECK.due("count(1)", x.count(1), next);
        int own = x.player(next, what);
        int others = x.player(1 - next, what);
        int turns = x.count(0);
        CHECK.isSo(kind + " at " + joint + " is done", Play.turn(x, kind, joint) >= 0);
        CHECK.due("player(" + next + ", " + what + ") behind " + kind, x.player(next, what), own + more);
        CHECK.due("player(" + (1 - next) + ", " + what + ") behind " + kind, x.player(1 - next, what), others);
        x.undo();
        CHECK.due("count(0) behind " + kind + " and undo()", x.count(0), turns);
        CHECK.due("player(" + next + ", " + what + ") behind undo()", x.player(next, what), own);
    }

    // ---- a new object

    private static void newCloth() {
        TailorChalks x = new TailorChalks();
        for (int joint = 0; joint < 82; joint++) {
            CHECK.due("of(" + joint + ", 0)", x.of(joint, 0), 0);
            CHECK.due("of(" + joint + ", 1)", x.of(joint, 1), 0);
            CHECK.due("of(" + joint + ", 4)", x.of(joint, 4), 0);
            CHECK.due("of(" + joint + ", 5)", x.of(joint, 5), NONE);
            CHECK.due("of(" + joint + ", 6)", x.of(joint, 6), 1);
        }
        x = new TailorChalks();
        for (int cell = 0; cell < 48; cell++) {
            CHECK.due("cell(" + cell + ", 0)", x.cell(cell, 0), 0);
            CHECK.due("cell(" + cell + ", 1)", x.cell(cell, 1), 48);
            CHECK.due("cell(" + cell + ", 2)", x.cell(cell, 2), 0);
        }
    }

    private static void newGame() {
        // What another object has been through leaves a new one as it is.
        TailorChalks used = Play.game("s0;s42;c20");
        used.save(0);
        Play.type(used, "p");
        TailorChalks x = new TailorChalks();
        int[] counts = {0, 0, 0, NONE, 48, 1, 0, 0, 0, 0, 0};
        for (int what = 0; what < counts.length; what++) {
            CHECK.due("count(" + what + ")", x.count(what), counts[what]);
        }
        CHECK.due("fault()", x.fault(), 0);
        CHECK.due("carryOut()", x.carryOut(), BAD_TEXT);
        CHECK.due("wipe()", x.wipe(), 0);
        CHECK.due("undo()", x.undo(), NOT_POSSIBLE);
        CHECK.due("restore(0)", x.restore(0), NOT_POSSIBLE);
        CHECK.due("restore(1)", x.restore(1), NOT_POSSIBLE);
        CHECK.due("pass()", x.pass(), 1);
    }

    // ---- chalk

    private static void chalkAnswersHowMany() {
        TailorChalks x = new TailorChalks();
        for (int many = 1; many <= 8; many++) {
            CHECK.due("chalk(" + many + ") of player 0", x.chalk(many), many);
            CHECK.due("chalk(" + (70 + many) + ") of player 1", x.chalk(70 + many), many);
        }
        // Fewer when some was found, the last one of them too.
        x = Play.game("c20;p;c21;s20");
        CHECK.due("chalk(22) of player 0", x.chalk(22), 2);
        x = Play.game("c20;s20");
        CHECK.due("chalk(21) of player 0", x.chalk(21), 1);
        CHECK.due("chalk(21) of player 1", x.chalk(21), 1);
    }

    private static void chalkWhereItDoesNotHold() {
        int[] ends = {0, 41, 42, 81};
        for (int joint : ends) {
            TailorChalks x = Play.game("s" + joint);
            CHECK.due("chalk(" + joint + ") if cut", x.chalk(joint), NOT_POSSIBLE);
            x.bluff(joint);
            CHECK.due("chalk(" + joint + ") if bluffed", x.chalk(joint), NOT_POSSIBLE);
            x.doubt(joint);
            CHECK.due("chalk(" + joint + ") if cut again", x.chalk(joint), NOT_POSSIBLE);
            x.sew(joint);
            CHECK.due("chalk(" + joint + ") if sewn", x.chalk(joint), 1);
        }
    }

    private static void chalkOfThisPlayer() {
        TailorChalks x = Play.game("c0;p");
        CHECK.due("chalk(0) of player 0 again", x.chalk(0), NOT_POSSIBLE);
        x.pass();
        CHECK.due("chalk(0) of player 1", x.chalk(0), 1);
        x.pass();
        CHECK.due("chalk(0) of player 1 again", x.chalk(0), NOT_POSSIBLE);
        // The first and the last one of 8 are both known.
        x = Play.game("c20;p;c21;p;c22;p;c23;p;c24;p;c25;p;c26;p;c27;p");
        CHECK.due("chalk(20)", x.chalk(20), NOT_POSSIBLE);
        CHECK.due("chalk(27)", x.chalk(27), NOT_POSSIBLE);
    }

    private static void chalkIfEightHave() {
        TailorChalks x = Play.game("c20;p;c21;p;c22;p;c23;p;c24;p;c25;p;c26;p");
        CHECK.due("chalk(27) if 7 have", x.chalk(27), 8);
        CHECK.due("chalk(28) of player 1", x.chalk(28), 1);
        CHECK.due("chalk(29) if 8 have", x.chalk(29), TOO_MANY);
        CHECK.due("chalk(28) if 8 have", x.chalk(28), TOO_MANY);
        x.undo();
        x.undo();
        CHECK.due("chalk(29) if 7 have again", x.chalk(29), 8);
    }

    // ---- snip

    private static void snipAnswersHowMany() {
        TailorChalks x = new TailorChalks();
        CHECK.due("snip(0)", x.snip(0), 0);
        CHECK.due("snip(42)", x.snip(42), 1);
        x = Play.game("s46;s47;s48;s49;s10;s50;s51;s52");
        CHECK.due("snip(53), the greatest rag", x.snip(53), 12);
        x = Play.game("s47;s48;s49;s11;s50;s51;s52;s53");
        CHECK.due("snip(54), one cell more", x.snip(54), 0);
        // The points for chalk are not in the answer.
        CHECK.due("snip(0) with chalk", Play.game("c0;s42").snip(0), 1);
        CHECK.due("snip(0) with the other one's chalk", Play.game("p;c0;p;s42;p;p").snip(0), 1);
    }

    private static void snipAsWhyTells() {
        TailorChalks x = Play.overByTurns(SEAMS);
        CHECK.due("why(8) if over", x.why(8), 1);
        CHECK.due("snip(8) if over", x.snip(8), NOT_POSSIBLE);
        x = Play.overByCells(SEAMS);
        CHECK.due("why(8) if over", x.why(8), 1);
        CHECK.due("snip(8) if over", x.snip(8), NOT_POSSIBLE);
        x = Play.game(Play.RAG_WITH_ALL);
        for (int joint = 0; joint <= 3; joint++) {
            CHECK.due("why(" + joint + ") if void", x.why(joint), 2);
            CHECK.due("snip(" + joint + ") if void", x.snip(joint), NOT_POSSIBLE);
        }
        x = Play.game(SEAMS);
        CHECK.due("why(2) if cut", x.why(2), 3);
        CHECK.due("snip(2) if cut", x.snip(2), NOT_POSSIBLE);
        int[] others = {0, 1, 8};
        for (int joint : others) {
            CHECK.due("why(" + joint + ")", x.why(joint), 0);
            CHECK.due("snip(" + joint + ")", x.snip(joint), 0);
        }
    }

    // ---- sew, bluff

    private static void sewAnswersThreads() {
        TailorChalks x = Play.game("s0;s1;s2;s3;s4;s5");
        for (int joint = 0; joint < 5; joint++) {
            CHECK.due("sew(" + joint + ")", x.sew(joint), 4 - joint);
            x.pass();
        }
        x.pass();
        CHECK.due("sew(5) of player 1", x.sew(5), 4);
    }

    private static void sewWithoutThread() {
        TailorChalks x = Play.game("s0;s1;s2;s3;s4;s5;w0;p;w1;p;w2;p;w3;p");
        CHECK.due("player(0, 1)", x.player(0, 1), 1);
        CHECK.due("sew(4) with one thread", x.sew(4), 0);
        x.pass();
        CHECK.due("sew(5) without thread", x.sew(5), NOT_POSSIBLE);
        CHECK.due("player(0, 1)", x.player(0, 1), 0);
        CHECK.due("of(5, 0)", x.of(5, 0), 1);
        // With the thread that undo brings back, it can be sewn.
        x.undo();
        x.undo();
        CHECK.due("sew(5) with one thread", x.sew(5), 0);
    }

    private static void bluffAnswersHowMany() {
        TailorChalks x = Play.game("s20;s21;s22");
        CHECK.due("bluff(20) of player 1", x.bluff(20), 1);
        CHECK.due("bluff(21) of player 0", x.bluff(21), 2);
        x.snip(20);
        CHECK.due("bluff(22) when one was snipped", x.bluff(22), 2);
        x.doubt(22);
        CHECK.due("bluff(22) when one was doubted", x.bluff(22), 2);
        x = Play.game("s0;b0;s20;s42");
        CHECK.due("of(0, 1)", x.of(0, 1), 1);
        CHECK.due("bluff(20) when one is void", x.bluff(20), 1);
    }

    // ---- doubt, pass

    private static void doubtAnswers() {
        TailorChalks x = Play.game("s0;b0");
        CHECK.due("doubt(0) if bluffed", x.doubt(0), 1);
        x = Play.game("s0;w0");
        CHECK.due("doubt(0) if sewn", x.doubt(0), 0);
        x = Play.game("s0;b0;d0;w0;p");
        CHECK.due("doubt(0) of the own seam", x.doubt(0), NOT_POSSIBLE);
        x.pass();
        CHECK.due("doubt(0) if bluffed first, sewn then", x.doubt(0), 0);
    }

    private static void doubtOfWhatTheOtherDidNot() {
        TailorChalks x = Play.game(SEAMS + ";p");
        CHECK.due("count(1)", x.count(1), 1);
        CHECK.due("doubt(0) of the own seam", x.doubt(0), NOT_POSSIBLE);
        CHECK.due("doubt(1) of the own bluff", x.doubt(1), NOT_POSSIBLE);
        CHECK.due("doubt(2) if cut", x.doubt(2), NOT_POSSIBLE);
        CHECK.due("doubt(8) if whole", x.doubt(8), NOT_POSSIBLE);
        x.pass();
        CHECK.due("doubt(2) if cut", x.doubt(2), NOT_POSSIBLE);
        CHECK.due("doubt(8) if whole", x.doubt(8), NOT_POSSIBLE);
        CHECK.due("doubt(0) of the other one's", x.doubt(0), 0);
        // The same seam, at first by player 1, last by player 0: "last" counts.
        x = Play.game("s0;w0;s0;p;w0;p");
        CHECK.due("doubt(0) of the own last seam", x.doubt(0), NOT_POSSIBLE);
        x.pass();
        CHECK.due("doubt(0) of the other one's last seam", x.doubt(0), 0);
    }

    private static void doubtOfTheDoubted() {
        TailorChalks x = Play.game("s0;w0;d0;p");
        CHECK.due("doubt(0) again, if sewn", x.doubt(0), NOT_POSSIBLE);
        x.undo();
        x.undo();
        CHECK.due("doubt(0) when its doubt is undone", x.doubt(0), 0);
        x = Play.game("s0;b0;d0;p");
        CHECK.due("doubt(0) again, if bluffed", x.doubt(0), NOT_POSSIBLE);
    }

    private static void passAnswersWhoIsNext() {
        TailorChalks x = new TailorChalks();
        for (int turn = 1; turn <= 200; turn++) {
            CHECK.due("pass() as the turn " + turn, x.pass(), turn % 2);
        }
        CHECK.due("pass() as one more turn", x.pass(), NOT_POSSIBLE);
        CHECK.due("count(1)", x.count(1), 0);
    }
}
