/** Each sentence of the document's terms of players and turns that names a boundary case. */
public final class PlayersEdgesTest {
    private static final int NO_SUCH = -1, TOO_MANY = -4, NOT_POSSIBLE = -5, NONE = -6;
    private static final Check CHECK = new Check("PlayersEdgesTest");

    public static void main(String[] args) {
        CHECK.section("Terms");
        CHECK.holds("There are two players, 0 and 1; 0 begins.", PlayersEdgesTest::twoPlayers);
        CHECK.holds("Each has points (0 at first), 5 threads, and chalk on up to 8 joints at a time (none at first).",
            PlayersEdgesTest::atFirst);
        CHECK.holds("chalk on up to 8 joints at a time", PlayersEdgesTest::eightChalks);
        CHECK.holds("Whoever's turn it is does one of these, and then it is the other one's turn",
            PlayersEdgesTest::otherOnesTurn);
        CHECK.holds("To chalk: a joint that holds and has no chalk of this player gets it.", PlayersEdgesTest::toChalk);
        snips();
        CHECK.holds("To sew: a joint that is cut is sewn, for one thread.", PlayersEdgesTest::toSew);
        CHECK.holds("To bluff: a joint that is cut is bluffed, without thread.", PlayersEdgesTest::toBluff);
        doubts();
        CHECK.holds("To pass: nothing is done.", PlayersEdgesTest::toPass);
        CHECK.holds("The game is over when fewer than 13 cells are left", PlayersEdgesTest::fewerThanThirteen);
        CHECK.holds("or behind 200 turns", PlayersEdgesTest::twoHundredTurns);
        CHECK.holds("then nobody does anything", PlayersEdgesTest::nobodyDoesAnything);
        CHECK.end();
    }

    private static void snips() {
        CHECK.holds("To snip: a joint that is whole, sewn or bluffed is cut.", PlayersEdgesTest::toSnip);
        CHECK.holds("If the other player has chalk there, the snipper gets 3 points less", PlayersEdgesTest::othersChalk);
        CHECK.holds("if the snipper has, 1 point more", PlayersEdgesTest::ownChalk);
        CHECK.holds("chalk of both is gone there then", PlayersEdgesTest::chalkOfBoth);
        CHECK.holds("If the two cells of the joint do not hang together any more", PlayersEdgesTest::stillTogether);
        CHECK.holds("do not hang together any more, by joints that hold", PlayersEdgesTest::byJointsThatHold);
        CHECK.holds("of the two pieces in which they are the one with fewer cells", PlayersEdgesTest::fewerCells);
        CHECK.holds("of two as great the one with the second cell of the joint (the one to the right, or below), falls off",
            PlayersEdgesTest::twoAsGreat);
        CHECK.holds("if it has 12 cells or fewer", PlayersEdgesTest::twelveOrThirteen);
        CHECK.holds("the snipper gets a point for each of its cells", PlayersEdgesTest::aPointForEachCell);
        CHECK.holds("(Greater pieces stay, apart from each other.)", PlayersEdgesTest::greaterPiecesStay);
        CHECK.holds("Chalk on joints that are void by that is gone.", PlayersEdgesTest::chalkOnVoidJoints);
    }

    private static void doubts() {
        CHECK.holds("To doubt: of a joint that the other player sewed or bluffed last", PlayersEdgesTest::toDoubt);
        CHECK.holds("if it is bluffed, it is cut again, and the doubter gets 2 points more", PlayersEdgesTest::doubtABluff);
        CHECK.holds("if it is sewn, the doubter gets 2 points less, and it stays", PlayersEdgesTest::doubtASeam);
        CHECK.holds("Snipping, sewing and bluffing anew end who did it last", PlayersEdgesTest::anewEndsWhoDidIt);
        CHECK.holds("what was doubted once is not doubted again", PlayersEdgesTest::notDoubtedAgain);
    }

    private static void points(TailorChalks x, int zero, int one) {
        CHECK.due("player(0, 0)", x.player(0, 0), 500 + zero);
        CHECK.due("player(1, 0)", x.player(1, 0), 500 + one);
    }

    private static void twoPlayers() {
        TailorChalks x = new TailorChalks();
        CHECK.due("count(1)", x.count(1), 0);
        CHECK.due("player(0, 1)", x.player(0, 1), 5);
        CHECK.due("player(1, 1)", x.player(1, 1), 5);
        for (int player : Play.outside(1)) {
            CHECK.due("player(" + player + ", 1)", x.player(player, 1), NO_SUCH);
            CHECK.due("chalked(" + player + ", 0)", x.chalked(player, 0), NO_SUCH);
        }
        x.chalk(5);
        CHECK.due("chalked(0, 0)", x.chalked(0, 0), 5);
        CHECK.due("chalked(1, 0)", x.chalked(1, 0), NO_SUCH);
    }

    private static void atFirst() {
        TailorChalks x = new TailorChalks();
        int[] due = {500, 5, 0, 0, 0, 0, 0, 0};
        for (int player = 0; player <= 1; player++) {
            for (int what = 0; what < due.length; what++) {
                CHECK.due("player(" + player + ", " + what + ")", x.player(player, what), due[what]);
            }
            CHECK.due("chalked(" + player + ", 0)", x.chalked(player, 0), NO_SUCH);
        }
    }

    private static void eightChalks() {
        TailorChalks x = Play.game("c20;c20;c21;c21;c22;c22;c23;c23;c24;c24;c25;c25;c26;c26");
        CHECK.due("chalk(27), the eighth of player 0", x.chalk(27), 8);
        CHECK.due("chalk(28), the eighth of player 1", x.chalk(28), 8);
        CHECK.due("chalk(29), the ninth of player 0", x.chalk(29), TOO_MANY);
        x.pass();
        CHECK.due("chalk(29), the ninth of player 1", x.chalk(29), TOO_MANY);
        // At a time: when chalk is found, there is room for one more, and for one alone.
        x.snip(27);
        CHECK.due("chalk(29), the eighth anew", x.chalk(29), 8);
        CHECK.due("chalk(30), the ninth of player 1", x.chalk(30), TOO_MANY);
        x.pass();
        CHECK.due("chalk(30), the ninth of player 0", x.chalk(30), TOO_MANY);
        CHECK.due("chalked(0, 7)", x.chalked(0, 7), 29);
        CHECK.due("chalked(0, 8)", x.chalked(0, 8), NO_SUCH);
        // So it is when chalk falls off with a rag: those of player 0 at 0 and 42 here.
        x = Play.game("c0;p;c42;p;c22;p;c23;p;c24;p;c25;p;c26;p;c27;s1;p;s43;p;s50;p;s7");
        CHECK.due("cell(0, 0)", x.cell(0, 0), 1);
        CHECK.due("chalk(40)", x.chalk(40), 7);
        x.pass();
        CHECK.due("chalk(39)", x.chalk(39), 8);
        x.pass();
        CHECK.due("chalk(38)", x.chalk(38), TOO_MANY);
    }

    private static void otherOnesTurn() {
        char[] kinds = {'c', 's', 'w', 'b', 'd', 'p'};
        for (int next = 0; next <= 1; next++) {
            for (char kind : kinds) {
                // The joint 0 is whole, 1 cut, 2 sewn by player 0, 3 bluffed by player 1.
                TailorChalks x = Play.game(next == 0 ? "s1;s2;w2;s3;p;b3" : "s1;s2;w2;s3;p;b3;p");
                int joint = kind == 'w' || kind == 'b' ? 1 : kind == 'd' ? 3 - next : 0;
                CHECK.due("count(1) ahead of " + kind, x.count(1), next);
                CHECK.isSo(kind + " is done", Play.turn(x, kind, joint) >= 0);
                CHECK.due("count(1) behind " + kind, x.count(1), 1 - next);
                CHECK.due("count(0) behind " + kind, x.count(0), 7 + next);
            }
        }
    }

    private static void toChalk() {
        TailorChalks x = Play.game("c20");
        CHECK.due("chalk(20) with the other one's", x.chalk(20), 1);
        CHECK.due("chalk(20) with the own", x.chalk(20), NOT_POSSIBLE);
        CHECK.due("of(20, 4)", x.of(20, 4), 3);
        x = Play.game("s20");
        CHECK.due("chalk(20) if cut", x.chalk(20), NOT_POSSIBLE);
        x.bluff(20);
        CHECK.due("chalk(20) if bluffed", x.chalk(20), NOT_POSSIBLE);
        x.doubt(20);
        x.sew(20);
        CHECK.due("chalk(20) if sewn", x.chalk(20), 1);
        CHECK.due("of(20, 4)", x.of(20, 4), 1);
        x = Play.game("s0;s42");
        CHECK.due("chalk(0) if void", x.chalk(0), NOT_POSSIBLE);
        CHECK.due("chalk(42) if void", x.chalk(42), NOT_POSSIBLE);
        // Chalk that was found can be put there again when the joint holds again.
        x = Play.game("c20;s20;w20");
        CHECK.due("chalk(20) if sewn", x.chalk(20), 1);
        CHECK.due("chalk(20) of the one who sewed it", x.chalk(20), 1);
    }

    private static void toSnip() {
        TailorChalks x = new TailorChalks();
        CHECK.due("snip(20) if whole", x.snip(20), 0);
        CHECK.due("of(20, 0)", x.of(20, 0), 1);
        CHECK.due("snip(20) if cut", x.snip(20), NOT_POSSIBLE);
        x.sew(20);
        CHECK.due("snip(20) if sewn", x.snip(20), 0);
        CHECK.due("of(20, 0)", x.of(20, 0), 1);
        x.bluff(20);
        CHECK.due("snip(20) if bluffed", x.snip(20), 0);
        CHECK.due("of(20, 0)", x.of(20, 0), 1);
        CHECK.due("player(1, 1)", x.player(1, 1), 4);
    }

    private static void othersChalk() {
        TailorChalks x = Play.game("c20;s20");
        points(x, 0, -3);
        CHECK.due("player(1, 5)", x.player(1, 5), 1);
        CHECK.due("player(0, 5)", x.player(0, 5), 0);
        x = Play.game("p;c20;s20");
        points(x, -3, 0);
        CHECK.due("player(0, 5)", x.player(0, 5), 1);
        x = Play.game("c20;s21");
        points(x, 0, 0);
        CHECK.due("of(20, 4)", x.of(20, 4), 1);
        // The chalk costs 3 also if a cell falls off for 1.
        points(Play.game("c0;p;p;s42;p;s0"), 0, -2);
    }

    private static void ownChalk() {
        TailorChalks x = Play.game("c20;p;s20");
        points(x, 1, 0);
        CHECK.due("player(0, 5)", x.player(0, 5), 0);
        x = Play.game("p;c20;p;s20");
        points(x, 0, 1);
        CHECK.due("player(1, 5)", x.player(1, 5), 0);
        points(Play.game("c0;s42;s0"), 2, 0);
    }

    private static void chalkOfBoth() {
        TailorChalks x = Play.game("c19;c20;c20;c19;s20");
        points(x, -2, 0);
        CHECK.due("of(20, 4)", x.of(20, 4), 0);
        CHECK.due("of(19, 4)", x.of(19, 4), 3);
        CHECK.due("player(0, 2)", x.player(0, 2), 1);
        CHECK.due("player(1, 2)", x.player(1, 2), 1);
        CHECK.due("chalked(0, 0)", x.chalked(0, 0), 19);
        CHECK.due("chalked(1, 0)", x.chalked(1, 0), 19);
        CHECK.due("player(0, 5)", x.player(0, 5), 1);
        // Nothing is found a second time.
        x.sew(20);
        x.snip(20);
        points(x, -2, 0);
        // The other one's alone, and the own alone, go as well.
        CHECK.due("of(20, 4)", Play.game("c20;s20").of(20, 4), 0);
        CHECK.due("of(20, 4)", Play.game("c20;p;s20").of(20, 4), 0);
    }

    private static void stillTogether() {
        // A ring of four cells in the corner, which hangs at one joint: snips in it let nothing fall off.
        TailorChalks x = Play.game("s1;s8;s50");
        CHECK.due("together(0, 47, 0)", x.together(0, 47, 0), 1);
        CHECK.due("snip(0)", x.snip(0), 0);
        CHECK.due("together(0, 1, 0)", x.together(0, 1, 0), 1);
        CHECK.due("count(4)", x.count(4), 48);
        CHECK.due("snip(51), by which it hung", x.snip(51), 4);
        // Around a hole of one cell, too, two cells still hang together.
        x = Play.game("s7;s43;s8;s51");
        CHECK.due("cell(9, 0)", x.cell(9, 0), 1);
        CHECK.due("snip(0)", x.snip(0), 0);
        CHECK.due("together(0, 1, 0)", x.together(0, 1, 0), 1);
        CHECK.due("snip(42)", x.snip(42), 1);
    }

    private static void byJointsThatHold() {
        TailorChalks x = Play.game("s0;b0");
        CHECK.due("snip(42) beside a bluff", x.snip(42), 1);
        CHECK.due("cell(0, 0)", x.cell(0, 0), 1);
        x = Play.game("s0;w0");
        CHECK.due("snip(42) beside a seam", x.snip(42), 0);
        CHECK.due("cell(0, 0)", x.cell(0, 0), 0);
        CHECK.due("snip(0), which is sewn", x.snip(0), 1);
        x = Play.game("s0;w0;d0");
        CHECK.due("snip(42) beside a doubted seam", x.snip(42), 0);
        x = Play.game("s0");
        CHECK.due("snip(42) beside a cut", x.snip(42), 1);
        // A bluffed joint did not hold: pieces that were apart before are apart behind its snip, too.
        x = Play.twelveByTwentyFour();
        x.bluff(58);
        CHECK.due("snip(58), bluffed between 12 and 24", x.snip(58), 12);
        x = Play.game("s58;s59;s60;s61;s62;s63;s64;s65;b58");
        CHECK.due("snip(58), bluffed between 24 and 24", x.snip(58), 0);
        CHECK.due("count(4)", x.count(4), 48);
    }

    private static void fewerCells() {
        // The corner is the first cell's piece at 0 and 42, and the second cell's at 41 and 81.
        CHECK.due("cell(0, 0)", Play.game("s0;s42").cell(0, 0), 1);
        CHECK.due("cell(0, 0)", Play.game("s42;s0").cell(0, 0), 1);
        CHECK.due("cell(47, 0)", Play.game("s41;s81").cell(47, 0), 1);
        CHECK.due("cell(47, 0)", Play.game("s81;s41").cell(47, 0), 1);
        // Of 11 and 13 cells, of 13 and 11 cells.
        TailorChalks x = Play.game(Play.HALF + ";s3;s10;s16;s53");
        CHECK.due("cells of 0, 11 or 13", x.cell(0, 1), 0);
        CHECK.due("cells of 7, 13 or 11", x.cell(7, 1), 13);
        x = Play.game(Play.HALF + ";s3;s10;s18;s54");
        CHECK.due("cells of 0, 13 or 11", x.cell(0, 1), 13);
        CHECK.due("cells of 7, 11 or 13", x.cell(7, 1), 0);
    }

    private static void twoAsGreat() {
        // 12 and 12 cells apart from 24 others: the piece to the right.
        TailorChalks x = Play.game("s58;s59;s60;s61;s62;s63;s64;s65;s3;s10");
        CHECK.due("snip(17)", x.snip(17), 12);
        CHECK.due("cell(3, 0)", x.cell(3, 0), 0);
        CHECK.due("cell(4, 0)", x.cell(4, 0), 1);
        // The last joint that is snipped is the one between the cells 3 and 11: the piece below.
        x = Play.game("s58;s59;s60;s61;s62;s63;s64;s65;s42;s43;s44;s10;s54;s55;s56;s57");
        CHECK.due("snip(45)", x.snip(45), 12);
        CHECK.due("cell(3, 0)", x.cell(3, 0), 0);
        CHECK.due("cell(11, 0)", x.cell(11, 0), 1);
        // The same two pieces, by the joint between the cells 11 and 12: the piece to the right.
        x = Play.game("s58;s59;s60;s61;s62;s63;s64;s65;s42;s43;s44;s45;s54;s55;s56;s57");
        CHECK.due("snip(10)", x.snip(10), 12);
        CHECK.due("cell(11, 0)", x.cell(11, 0), 0);
        CHECK.due("cell(12, 0)", x.cell(12, 0), 1);
        // One and one cell, at the end of a piece of 13.
        x = Play.game("s47;s48;s49;s11;s50;s51;s52;s53;s54;s2;s45;s10;s44;s1;s43;s0");
        CHECK.due("cell(0, 1)", x.cell(0, 1), 2 + 3);
    }

    private static void twelveOrThirteen() {
        // The row 0 and the cells 8 to 11, or to 12.
        TailorChalks x = Play.game("s46;s47;s48;s49;s10;s50;s51;s52");
        CHECK.due("snip(53) of 12 cells", x.snip(53), 12);
        CHECK.due("count(4)", x.count(4), 36);
        x = Play.game("s47;s48;s49;s11;s50;s51;s52;s53");
        CHECK.due("snip(54) of 13 cells", x.snip(54), 0);
        CHECK.due("count(4)", x.count(4), 48);
        CHECK.due("cell(0, 1)", x.cell(0, 1), 13);
        // The same at the second cell: the row 5 and the cells 36 to 39, or 35 to 39.
        x = Play.game("s74;s75;s76;s77;s31;s70;s71;s72");
        CHECK.due("snip(73) of 12 cells", x.snip(73), 12);
        CHECK.due("cell(47, 0)", x.cell(47, 0), 1);
        x = Play.game("s74;s75;s76;s30;s69;s70;s71;s72");
        CHECK.due("snip(73) of 13 cells", x.snip(73), 0);
        CHECK.due("cell(47, 1)", x.cell(47, 1), 13);
        // Two as great of 13 cells: both stay.
        x = Play.game("s60;s61;s62;s63;s64;s65;s22;s66;s67");
        CHECK.due("cell(0, 1)", x.cell(0, 1), 26);
        Play.turns(x, "s2;s10;s17");
        CHECK.due("snip(45) of 13 and 13 cells", x.snip(45), 0);
        CHECK.due("cell(0, 1)", x.cell(0, 1), 13);
        CHECK.due("cell(3, 1)", x.cell(3, 1), 13);
    }

    private static void aPointForEachCell() {
        TailorChalks x = Play.game("s0;s42");
        points(x, 0, 1);
        CHECK.due("player(1, 3)", x.player(1, 3), 1);
        CHECK.due("player(1, 4)", x.player(1, 4), 1);
        x = Play.game("s46;s47;s48;s49;s10;s50;s51;s52;s53");
        points(x, 12, 0);
        CHECK.due("player(0, 3)", x.player(0, 3), 1);
        CHECK.due("player(0, 4)", x.player(0, 4), 12);
        points(Play.game("s47;s48;s49;s11;s50;s51;s52;s53;s54"), 0, 0);
    }

    private static void greaterPiecesStay() {
        TailorChalks x = Play.game("s58;s59;s60;s61;s62;s63;s64;s65");
        CHECK.due("count(4)", x.count(4), 48);
        CHECK.due("count(5)", x.count(5), 2);
        CHECK.due("together(0, 47, 0)", x.together(0, 47, 0), 0);
        CHECK.due("cell(0, 1)", x.cell(0, 1), 24);
        CHECK.due("cell(47, 1)", x.cell(47, 1), 24);
        CHECK.due("of(0, 6) in the one", x.of(0, 6), 1);
        CHECK.due("of(41, 6) in the other", x.of(41, 6), 1);
        CHECK.due("of(58, 1) between them", x.of(58, 1), 0);
        points(x, 0, 0);
        // A piece that stays does so when it becomes small by losing a part: 13 cells, then 1 and 12.
        x = Play.game("s47;s48;s49;s11;s50;s51;s52;s53;s54;s0");
        CHECK.due("snip(42)", x.snip(42), 1);
        CHECK.due("cell(1, 1)", x.cell(1, 1), 12);
        CHECK.due("cell(1, 0)", x.cell(1, 0), 0);
    }

    private static void chalkOnVoidJoints() {
        // The cells 0 and 1 fall off: chalk at 0 in the rag goes, chalk at 2 and 44 beside it stays.
        TailorChalks x = Play.game("c0;c0;c2;c2;c44;c44;s1;s42");
        CHECK.due("player(0, 2)", x.player(0, 2), 3);
        CHECK.due("snip(43)", x.snip(43), 2);
        for (int player = 0; player <= 1; player++) {
            CHECK.due("player(" + player + ", 2)", x.player(player, 2), 2);
            CHECK.due("chalked(" + player + ", 0)", x.chalked(player, 0), 2);
            CHECK.due("chalked(" + player + ", 1)", x.chalked(player, 1), 44);
            CHECK.due("chalked(" + player + ", 2)", x.chalked(player, 2), NO_SUCH);
            CHECK.due("player(" + player + ", 5)", x.player(player, 5), 0);
        }
        CHECK.due("of(0, 4)", x.of(0, 4), 0);
        points(x, 2, 0);
        // All 8 of both go with a rag of 12 cells.
        x = Play.game("c0;c0;c2;c2;c4;c4;c7;c7;c9;c9;c11;c11;c42;c42;c47;c47;s5;s12;s50;s51;s52;s53;s54;s55");
        CHECK.due("count(4)", x.count(4), 36);
        CHECK.due("player(0, 2)", x.player(0, 2), 0);
        CHECK.due("player(1, 2)", x.player(1, 2), 0);
        points(x, 0, 12);
        // A rag to the right and below: 41 is between its two cells.
        x = Play.game("c41;c40;s80;s81");
        CHECK.due("snip(40) with the other one's chalk", x.snip(40), 2);
        CHECK.due("player(0, 2)", x.player(0, 2), 0);
        points(x, 2 - 3, 0);
    }

    private static void toSew() {
        TailorChalks x = Play.game("s0;s1;s2;s3;s4;s5;s6;w0;w1;p;w2;p;w3;p;w4;p");
        CHECK.due("player(0, 1)", x.player(0, 1), 1);
        CHECK.due("player(1, 1)", x.player(1, 1), 4);
        CHECK.due("sew(5) with the last thread", x.sew(5), 0);
        CHECK.due("of(5, 0)", x.of(5, 0), 2);
        x.pass();
        CHECK.due("sew(6) without thread", x.sew(6), NOT_POSSIBLE);
        CHECK.due("of(6, 0)", x.of(6, 0), 1);
        x.pass();
        CHECK.due("sew(6) of the other player", x.sew(6), 3);
        x = Play.game("s0;b0");
        CHECK.due("sew(0) if bluffed", x.sew(0), NOT_POSSIBLE);
        CHECK.due("sew(1) if whole", x.sew(1), NOT_POSSIBLE);
        x = Play.game("s0;w0");
        CHECK.due("sew(0) if sewn", x.sew(0), NOT_POSSIBLE);
        CHECK.due("player(0, 1)", x.player(0, 1), 5);
        // The thread does not come back when the seam is snipped.
        x.snip(0);
        CHECK.due("player(0, 1) of the snipper", x.player(0, 1), 5);
        CHECK.due("player(1, 1) of who sewed", x.player(1, 1), 4);
        x = Play.game("s0;w0;p;s0");
        CHECK.due("player(1, 1) of who sewed and snipped", x.player(1, 1), 4);
    }

    private static void toBluff() {
        TailorChalks x = Play.game("s0;s1;s2;s3;s4;s5;s6;w0;p;w1;p;w2;p;w3;p;w4");
        CHECK.due("player(1, 1)", x.player(1, 1), 0);
        x.pass();
        CHECK.due("bluff(5) without thread", x.bluff(5), 1);
        CHECK.due("player(1, 1)", x.player(1, 1), 0);
        CHECK.due("bluff(6) with threads", x.bluff(6), 2);
        CHECK.due("player(0, 1)", x.player(0, 1), 5);
        CHECK.due("bluff(5) if bluffed", x.bluff(5), NOT_POSSIBLE);
        CHECK.due("bluff(0) if sewn", x.bluff(0), NOT_POSSIBLE);
        CHECK.due("bluff(7) if whole", x.bluff(7), NOT_POSSIBLE);
    }

    private static void toDoubt() {
        TailorChalks x = Play.game("s0;s1;w0;b1");
        CHECK.due("doubt(0) of the own seam", x.doubt(0), NOT_POSSIBLE);
        CHECK.due("doubt(1) of the other one's bluff", x.doubt(1), 1);
        CHECK.due("doubt(0) of the other one's seam", x.doubt(0), 0);
        x = Play.game("s0;s1;w0;b1;p");
        CHECK.due("doubt(1) of the own bluff", x.doubt(1), NOT_POSSIBLE);
        CHECK.due("doubt(2) if whole", x.doubt(2), NOT_POSSIBLE);
        x = Play.game("s0");
        CHECK.due("doubt(0) if cut", x.doubt(0), NOT_POSSIBLE);
        // Long before, too: what counts is who did it last, not when.
        x = Play.game("s0;b0");
        Play.pass(x, 100);
        CHECK.due("doubt(0) behind 100 turns", x.doubt(0), 1);
    }

    private static void doubtABluff() {
        TailorChalks x = Play.game("s0;b0;d0");
        points(x, 2, 0);
        CHECK.due("of(0, 0)", x.of(0, 0), 1);
        CHECK.due("player(0, 6)", x.player(0, 6), 1);
        CHECK.due("player(0, 7)", x.player(0, 7), 0);
        x = Play.game("p;s0;b0;d0");
        points(x, 0, 2);
        CHECK.due("player(1, 6)", x.player(1, 6), 1);
        // Cut again: it can be sewn, and not snipped.
        CHECK.due("snip(0)", x.snip(0), NOT_POSSIBLE);
        CHECK.due("sew(0)", x.sew(0), 4);
        // Nothing falls off by a doubt, though the bluff was between 12 and 24 cells.
        x = Play.twelveByTwentyFour();
        Play.turns(x, "b58;d58");
        CHECK.due("count(4)", x.count(4), 36);
    }

    private static void doubtASeam() {
        TailorChalks x = Play.game("s0;w0;d0");
        points(x, -2, 0);
        CHECK.due("of(0, 0)", x.of(0, 0), 2);
        CHECK.due("of(0, 6)", x.of(0, 6), 1);
        CHECK.due("player(0, 6)", x.player(0, 6), 0);
        CHECK.due("player(0, 7)", x.player(0, 7), 1);
        CHECK.due("player(1, 1)", x.player(1, 1), 4);
        x = Play.game("p;s0;w0;d0");
        points(x, 0, -2);
        CHECK.due("player(1, 7)", x.player(1, 7), 1);
        // Chalk at a seam stays, too.
        x = Play.game("s0;w0;c0;p;d0");
        CHECK.due("of(0, 4)", x.of(0, 4), 1);
    }

    private static void anewEndsWhoDidIt() {
        TailorChalks x = Play.game("s0;w0;s0");
        CHECK.due("of(0, 5) if snipped", x.of(0, 5), NONE);
        CHECK.due("doubt(0) if snipped", x.doubt(0), NOT_POSSIBLE);
        x.pass();
        CHECK.due("doubt(0) if snipped", x.doubt(0), NOT_POSSIBLE);
        x = Play.game("s0;b0;s0");
        CHECK.due("of(0, 5) if snipped", x.of(0, 5), NONE);
        // Bluffed by player 1, then sewn by player 0.
        x = Play.game("s0;b0;s0;p;w0");
        CHECK.due("of(0, 5) if sewn anew", x.of(0, 5), 0);
        CHECK.due("doubt(0) of player 1", x.doubt(0), 0);
        x = Play.game("s0;b0;s0;p;w0;p");
        CHECK.due("doubt(0) of player 0", x.doubt(0), NOT_POSSIBLE);
        // Sewn by player 1, then bluffed by player 0.
        x = Play.game("s0;w0;s0;p;b0");
        CHECK.due("of(0, 5) if bluffed anew", x.of(0, 5), 0);
        CHECK.due("doubt(0) of player 1", x.doubt(0), 1);
        x = Play.game("s0;w0;s0;p;b0;p");
        CHECK.due("doubt(0) of player 0", x.doubt(0), NOT_POSSIBLE);
    }

    private static void notDoubtedAgain() {
        TailorChalks x = Play.game("s0;w0;d0;p");
        CHECK.due("of(0, 5)", x.of(0, 5), NONE);
        CHECK.due("doubt(0) of the same player", x.doubt(0), NOT_POSSIBLE);
        x.pass();
        CHECK.due("doubt(0) of the other player", x.doubt(0), NOT_POSSIBLE);
        points(x, -2, 0);
        x = Play.game("s0;b0;d0;p");
        CHECK.due("of(0, 5)", x.of(0, 5), NONE);
        CHECK.due("doubt(0) of the same player", x.doubt(0), NOT_POSSIBLE);
        points(x, 2, 0);
        // Anew is another seam: it can be doubted once, too.
        x = Play.game("s0;w0;d0;s0;p;w0");
        CHECK.due("of(0, 5)", x.of(0, 5), 1);
        CHECK.due("doubt(0) of the new seam", x.doubt(0), 0);
        x = Play.game("s0;b0;d0;b0");
        CHECK.due("doubt(0) of the new bluff", x.doubt(0), 1);
        points(x, 4, 0);
    }

    private static void toPass() {
        TailorChalks x = Play.game("c5;s6;w6;s7;b7");
        TailorChalks y = Play.game("c5;s6;w6;s7;b7");
        x.pass();
        x.pass();
        CHECK.due("count(0)", x.count(0), 7);
        Play.turns(y, "p;p");
        CHECK.isSo("two passes twice", Play.print(x) == Play.print(y));
        points(x, 0, 0);
        CHECK.due("of(5, 4)", x.of(5, 4), 1);
        CHECK.due("of(6, 5)", x.of(6, 5), 0);
        CHECK.due("of(7, 5)", x.of(7, 5), 0);
        CHECK.due("player(0, 1)", x.player(0, 1), 4);
    }

    private static void fewerThanThirteen() {
        TailorChalks x = Play.thirteenCells();
        CHECK.due("count(4)", x.count(4), 13);
        CHECK.due("count(2) with 13 cells", x.count(2), 0);
        Play.turns(x, "s0");
        CHECK.due("snip(42)", x.snip(42), 1);
        CHECK.due("count(4)", x.count(4), 12);
        CHECK.due("count(2) with 12 cells", x.count(2), 1);
        x.undo();
        CHECK.due("count(2) with 13 cells again", x.count(2), 0);
        CHECK.due("pass()", x.pass(), 0);
        x = Play.overByCells();
        CHECK.due("count(4)", x.count(4), 12);
        CHECK.due("count(2)", x.count(2), 1);
        // Pieces that are apart count together: 12 and 24 cells, 1 and 12, 1 and 11.
        x = Play.twelveByTwentyFour();
        CHECK.due("count(2) with 12 and 24 cells", x.count(2), 0);
        Play.turns(x, "s1;s8;s15;s0;s7;s14;s50;s42;s24;s31;s38");
        CHECK.due("count(4)", x.count(4), 13);
        CHECK.due("count(5)", x.count(5), 2);
        CHECK.due("count(2) with 1 and 12 cells", x.count(2), 0);
        Play.turns(x, "s21;s66");
        CHECK.due("count(4)", x.count(4), 12);
        CHECK.due("count(5)", x.count(5), 2);
        CHECK.due("count(2) with 1 and 11 cells", x.count(2), 1);
    }

    private static void twoHundredTurns() {
        char[] kinds = {'c', 's', 'w', 'b', 'd', 'p'};
        for (char kind : kinds) {
            // Player 1 has the last turn: 0 is whole, 1 cut, 2 bluffed by player 0.
            TailorChalks x = Play.game("s1;s2;b2");
            Play.pass(x, 196);
            CHECK.due("count(0)", x.count(0), 199);
            CHECK.due("count(2) behind 199 turns", x.count(2), 0);
            int joint = kind == 'w' || kind == 'b' ? 1 : kind == 'd' ? 2 : 0;
            CHECK.isSo(kind + " is done as the last turn", Play.turn(x, kind, joint) >= 0);
            CHECK.due("count(0)", x.count(0), 200);
            CHECK.due("count(2) behind 200 turns", x.count(2), 1);
            CHECK.due("count(1) behind 200 turns", x.count(1), 0);
            CHECK.due("pass() as one more turn", x.pass(), NOT_POSSIBLE);
            CHECK.due("count(0)", x.count(0), 200);
        }
    }

    private static void nobodyDoesAnything() {
        String seams = "s0;s1;s2;w0;p;b1";
        TailorChalks[] overs = {Play.overByTurns(seams), Play.overByCells(seams), Play.overByCells(seams + ";p")};
        for (TailorChalks x : overs) {
            int turns = x.count(0);
            for (int joint = 0; joint < 3; joint++) {
                CHECK.due("chalk(" + joint + ")", x.chalk(joint), NOT_POSSIBLE);
                CHECK.due("snip(" + joint + ")", x.snip(joint), NOT_POSSIBLE);
                CHECK.due("sew(" + joint + ")", x.sew(joint), NOT_POSSIBLE);
                CHECK.due("bluff(" + joint + ")", x.bluff(joint), NOT_POSSIBLE);
                CHECK.due("doubt(" + joint + ")", x.doubt(joint), NOT_POSSIBLE);
            }
            CHECK.due("chalk(8)", x.chalk(8), NOT_POSSIBLE);
            CHECK.due("snip(8)", x.snip(8), NOT_POSSIBLE);
            CHECK.due("pass()", x.pass(), NOT_POSSIBLE);
            CHECK.due("count(0)", x.count(0), turns);
        }
    }
}
