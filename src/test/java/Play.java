/**
 * Ways to bring an object into a state that a test needs. An object is used for at most 512 calls:
 * what later ones answer is free, so no test may compare it.
 */
final class Play {
    /** 12 cells fall off with joints in all states: 0 whole, 1 cut, 2 and 8 sewn, 3 and 11 bluffed by player 0 and 1. */
    static final String RAG_WITH_ALL = "s1;s2;s3;s8;s11;p;w2;w8;b3;b11;s5;s12;s50;s51;s52;s53;s54;s55";

    /** The row 5, then the row 4, then the row 3 falls off: 24 cells are left. */
    static final String HALF = "s74;s75;s76;s77;s78;s79;s80;s81;s66;s67;s68;s69;s70;s71;s72;s73;"
        + "s58;s59;s60;s61;s62;s63;s64;s65";

    private Play() {
    }

    /** A new object behind turns that are written as on the pad; each of them has to be possible. */
    static TailorChalks game(String turns) {
        TailorChalks x = new TailorChalks();
        turns(x, turns);
        return x;
    }

    static void turns(TailorChalks x, String turns) {
        for (String order : turns.split(";")) {
            int answer = turn(x, order.charAt(0), order.equals("p") ? 0 : Integer.parseInt(order.substring(1)));
            if (answer < 0) {
                throw new IllegalStateException(order + " in " + turns + " answered " + answer);
            }
        }
    }

    static int turn(TailorChalks x, char kind, int joint) {
        switch (kind) {
            case 'c': return x.chalk(joint);
            case 's': return x.snip(joint);
            case 'w': return x.sew(joint);
            case 'b': return x.bluff(joint);
            case 'd': return x.doubt(joint);
            case 'p': return x.pass();
            default: throw new IllegalArgumentException("order " + kind);
        }
    }

    /** Numbers that are none of 0 to the last one, also such as a wrap-around would bring there. */
    static int[] outside(int last) {
        return new int[] {-1, -2, -last - 1, last + 1, last + 2, last + 64, 256, 257, 1 << 16, 1 << 30,
            Integer.MIN_VALUE, Integer.MIN_VALUE + 1, Integer.MAX_VALUE};
    }

    static void type(TailorChalks x, String text) {
        for (int from = 0; from < text.length(); from += 8) {
            x.put(packed(text.substring(from, Math.min(text.length(), from + 8))));
        }
    }

    /** A new object with this text on its pad. */
    static TailorChalks typed(String text) {
        TailorChalks x = new TailorChalks();
        type(x, text);
        return x;
    }

    /** At most 8 characters as put() takes them. */
    static long packed(String text) {
        long characters = 0;
        for (int i = 0; i < text.length(); i++) {
            characters = characters << 8 | text.charAt(i);
        }
        return characters;
    }

    static void snipAll(TailorChalks x, int... joints) {
        for (int joint : joints) {
            x.snip(joint);
        }
    }

    /** Snips all joints between a row and the one below it. */
    static void snipBelowRow(TailorChalks x, int row) {
        for (int column = 0; column < 8; column++) {
            x.snip(42 + 8 * row + column);
        }
    }

    static void pass(TailorChalks x, int times) {
        for (int i = 0; i < times; i++) {
            x.pass();
        }
    }

    /** All that the object tells about itself but the pad and the history, as one number; some 180 calls. */
    static long print(TailorChalks x) {
        long print = 17;
        for (int joint = 0; joint < 82; joint++) {
            int how = x.of(joint, 0);
            print = 31 * print + how;
            if (how >= 2) {
                print = 31 * print + x.of(joint, 5);
            }
        }
        for (int player = 0; player <= 1; player++) {
            for (int what = 0; what <= 7; what++) {
                print = 31 * print + x.player(player, what);
            }
            for (int rank = 0; rank < x.player(player, 2); rank++) {
                print = 31 * print + x.chalked(player, rank);
            }
        }
        for (int cell = 0; cell < 48; cell++) {
            print = 31 * print + x.cell(cell, 1);
        }
        return 31 * print + x.count(0) * 2 + x.count(1);
    }

    /** The same with the pad and the history: what a call that answers an error must leave. */
    static long fullPrint(TailorChalks x) {
        return ((31 * print(x) + x.count(9)) * 31 + x.fault()) * 31 + x.count(10);
    }

    /** The same with what undo() and restore() bring back and what the pad does: changes the object. */
    static long deepPrint(TailorChalks x) {
        long print = fullPrint(x);
        for (int change = 0; change < 7; change++) {
            print = 31 * print + x.undo();
            print = 31 * print + shortPrint(x);
        }
        for (int slot = 0; slot <= 1; slot++) {
            print = 31 * print + x.restore(slot);
            print = 31 * print + shortPrint(x);
        }
        print = 31 * print + x.carryOut();
        return 31 * print + shortPrint(x);
    }

    private static long shortPrint(TailorChalks x) {
        long print = x.count(0);
        int[] others = {x.count(4), x.count(6), x.count(7), x.count(8), x.player(0, 0), x.player(1, 0)};
        for (int other : others) {
            print = 31 * print + other;
        }
        return print;
    }

    static TailorChalks overByTurns() {
        return overByTurns("p");
    }

    /** As many passes behind the turns as end the game; player 0 is next. */
    static TailorChalks overByTurns(String turns) {
        TailorChalks x = game(turns);
        pass(x, 200 - x.count(0));
        return x;
    }

    /** Three rows fall off, then half of what is left: 12 cells stay; player 1 is next. */
    static TailorChalks overByCells() {
        return overByCells("p;p");
    }

    /** The same with turns ahead of the last three, by which the columns 4 to 7 of the rows 0 to 2 fall off. */
    static TailorChalks overByCells(String turns) {
        return game(HALF + ";" + turns + ";s3;s10;s17");
    }

    /** Three rows fall off, then 11 cells of what is left: 13 cells stay, and it is not over. */
    static TailorChalks thirteenCells() {
        return game(HALF + ";s3;s10;s18;s54");
    }

    /** Pieces of 12 and 24 cells next to one another, and it is the turn of player 1. */
    static TailorChalks twelveByTwentyFour() {
        TailorChalks x = new TailorChalks();
        snipBelowRow(x, 2);
        snipAll(x, 3, 10, 17);
        return x;
    }
}
