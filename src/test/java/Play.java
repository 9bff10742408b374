/** Ways to bring an object into a state that a test needs. */
final class Play {
    private Play() {
    }

    static void type(TailorChalks x, String text) {
        for (int from = 0; from < text.length(); from += 8) {
            x.put(packed(text.substring(from, Math.min(text.length(), from + 8))));
        }
    }

    /** At most 8 characters as put() takes them. */
    static long packed(String text) {
        long characters = 0;
        for (int i = 0; i < text.length(); i++) {
            characters = characters << 8 | text.charAt(i);
        }
        return characters;
    }

    static void snipAll(TailorChalks x, int... joints) {
        for (int joint : joints) {
            x.snip(joint);
        }
    }

    /** Snips all joints between a row and the one below it. */
    static void snipBelowRow(TailorChalks x, int row) {
        for (int column = 0; column < 8; column++) {
            x.snip(42 + 8 * row + column);
        }
    }

    static void pass(TailorChalks x, int times) {
        for (int i = 0; i < times; i++) {
            x.pass();
        }
    }

    /** All that the object tells about itself but the pad and the history, as one number. */
    static long print(TailorChalks x) {
        long print = 17;
        for (int joint = 0; joint < 82; joint++) {
            for (int what = 0; what <= 6; what++) {
                print = 31 * print + x.of(joint, what);
            }
        }
        for (int player = 0; player <= 1; player++) {
            for (int what = 0; what <= 7; what++) {
                print = 31 * print + x.player(player, what);
                print = 31 * print + x.chalked(player, what);
            }
        }
        for (int cell = 0; cell < 48; cell++) {
            for (int what = 0; what <= 3; what++) {
                print = 31 * print + x.cell(cell, what);
            }
        }
        for (int what = 0; what <= 8; what++) {
            print = 31 * print + x.count(what);
        }
        return print;
    }

    /** The same with the pad and the history: what a call that answers an error must leave. */
    static long fullPrint(TailorChalks x) {
        return (31 * print(x) + x.count(9)) * 31 + x.count(10);
    }

    static TailorChalks overByTurns() {
        TailorChalks x = new TailorChalks();
        pass(x, 200);
        return x;
    }

    /** Three rows fall off, then half of what is left: 12 cells stay. */
    static TailorChalks overByCells() {
        TailorChalks x = new TailorChalks();
        snipBelowRow(x, 4);
        snipBelowRow(x, 3);
        snipBelowRow(x, 2);
        snipAll(x, 3, 10, 17);
        return x;
    }

    /** Three rows fall off, then 11 cells of what is left: 13 cells stay, and it is not over. */
    static TailorChalks thirteenCells() {
        TailorChalks x = new TailorChalks();
        snipBelowRow(x, 4);
        snipBelowRow(x, 3);
        snipBelowRow(x, 2);
        snipAll(x, 3, 10, 18, 54);
        return x;
    }

    /** Pieces of 12 and 24 cells next to one another, and it is the turn of player 1. */
    static TailorChalks twelveByTwentyFour() {
        TailorChalks x = new TailorChalks();
        snipBelowRow(x, 2);
        snipAll(x, 3, 10, 17);
        return x;
    }
}
