/** Promises 18 to 21: texts. */
public final class TextsTest {
    private static final int BAD_VALUE = -2, BAD_TEXT = -3, TOO_MANY = -4, NOT_POSSIBLE = -5, NONE = -6;
    private static final Check CHECK = new Check("TextsTest");

    public static void main(String[] args) {
        put();
        putWithWrongInputs();
        putUpToTheLimit();
        wipe();
        faults();
        faultOfAFullPad();
        carryOut();
        carryOutAllKinds();
        carryOutUpToAnError();
        carryOutIsOneChange();
        carryOutWithAFault();
        carryOutToTheEndOfTheGame();
        CHECK.end();
    }

    private static void put() {
        TailorChalks x = new TailorChalks();
        CHECK.due("put(\"p\")", x.put('p'), 1);
        CHECK.due("fault()", x.fault(), NONE);
        CHECK.due("put(\";c4\")", x.put(Play.packed(";c4")), 4);
        CHECK.due("fault()", x.fault(), NONE);
        CHECK.due("put(\"2;s42;p;\")", x.put(Play.packed("2;s42;p;")), 12);
        CHECK.due("count(9)", x.count(9), 12);
        CHECK.due("fault()", x.fault(), 12);
        CHECK.due("count(10)", x.count(10), 0);
        CHECK.due("put(\"p\")", x.put('p'), 13);
        CHECK.due("carryOut()", x.carryOut(), 5);
        CHECK.due("player(1, 0)", x.player(1, 0), 500);
        CHECK.due("player(0, 0)", x.player(0, 0), 497);
    }

    private static void putWithWrongInputs() {
        TailorChalks x = new TailorChalks();
        long[] wrong = {0, 32, 127, 128, 255, 10, 1, -1, Long.MIN_VALUE, Long.MAX_VALUE,
            'p' << 8, (long) 'p' << 56, (long) 'p' << 16 | 'p', 1L << 8 | 'p' << 16, 1L << 63 | 'p',
            ' ' << 8 | 'p', 'p' << 8 | ' ', 0x7070707070707F70L, 0x7F70707070707070L, 0x8070707070707070L,
            0x2070707070707070L, 0x7000707070707070L, 0x7070707070707000L, 0xFFL << 56 | 'p'};
        for (long characters : wrong) {
            CHECK.due("put(" + characters + ")", x.put(characters), BAD_VALUE);
            CHECK.due("count(9)", x.count(9), 0);
        }
        CHECK.due("put(33)", x.put(33), 1);
        CHECK.due("put(126)", x.put(126), 2);
        CHECK.due("put of 8 characters", x.put(0x7E21217E7E21217EL), 10);
    }

    private static void putUpToTheLimit() {
        TailorChalks x = new TailorChalks();
        for (int length = 8; length <= 72; length += 8) {
            CHECK.due("put(8 characters)", x.put(Play.packed("p;p;p;p;")), length);
        }
        CHECK.due("put(7 characters)", x.put(Play.packed("p;p;p;p")), 79);
        CHECK.due("put(2 characters)", x.put(Play.packed(";p")), TOO_MANY);
        CHECK.due("put(8 characters)", x.put(Play.packed("p;p;p;p;")), TOO_MANY);
        CHECK.due("put(0)", x.put(0), BAD_VALUE);
        CHECK.due("put(32)", x.put(32), BAD_VALUE);
        CHECK.due("count(9)", x.count(9), 79);
        CHECK.due("fault()", x.fault(), NONE);
        CHECK.due("put(1 character)", x.put(';'), 80);
        CHECK.due("fault()", x.fault(), 80);
        CHECK.due("put(1 character)", x.put('p'), TOO_MANY);
        CHECK.due("put(0)", x.put(0), BAD_VALUE);
        CHECK.due("wipe()", x.wipe(), 80);
        CHECK.due("put(1 character)", x.put('p'), 1);
    }

    private static void wipe() {
        TailorChalks x = new TailorChalks();
        CHECK.due("wipe()", x.wipe(), 0);
        Play.type(x, "c1;s2;w3;b4");
        CHECK.due("wipe()", x.wipe(), 11);
        CHECK.due("count(9)", x.count(9), 0);
        CHECK.due("fault()", x.fault(), 0);
        CHECK.due("wipe()", x.wipe(), 0);
        CHECK.due("count(10)", x.count(10), 0);
        x.put('p');
        CHECK.due("fault()", x.fault(), NONE);
        CHECK.due("undo()", x.undo(), NOT_POSSIBLE);
        CHECK.due("count(9)", x.count(9), 1);
    }

    private static void faults() {
        String[] right = {"p", "c0", "s9", "w10", "b81", "d99", "p;p", "c1;s22;w3;b44;d5;p", "c82", "d0;c0"};
        for (String text : right) {
            fault(text, NONE);
        }
        String[] early = {"", "c", "p;", "c1;", "p;s", "c10;d", "c1;p;"};
        for (String text : early) {
            fault(text, text.length());
        }
        fault("x", 0);
        fault(";", 0);
        fault("1", 0);
        fault("C1", 0);
        fault("P", 0);
        fault("cc", 1);
        fault("cp", 1);
        fault("c;", 1);
        fault("c-1", 1);
        fault("c/", 1);
        fault("c:", 1);
        fault("pp", 1);
        fault("p1", 1);
        fault("c00", 2);
        fault("c01", 2);
        fault("c0p", 2);
        fault("c1p", 2);
        fault("c100", 3);
        fault("c990", 3);
        fault("s10x", 3);
        fault("c10c1", 3);
        fault("c1;;", 3);
        fault("c1;3", 3);
        fault("p;p;q;!", 4);
        fault("p;c1,c2", 4);
        fault("c12;s345", 7);
        fault("c1;s", 4);
    }

    private static void fault(String text, int due) {
        TailorChalks x = new TailorChalks();
        Play.type(x, text);
        CHECK.due("fault() of " + text, x.fault(), due);
        CHECK.due("count(9) of " + text, x.count(9), text.length());
    }

    private static void faultOfAFullPad() {
        StringBuilder text = new StringBuilder();
        for (int i = 0; i < 20; i++) {
            text.append("d99;");
        }
        fault(text.toString(), 80);
        text.setCharAt(79, '0');
        fault(text.toString(), 79);
        text.setLength(79);
        fault(text.toString(), NONE);
    }

    private static void carryOut() {
        TailorChalks x = new TailorChalks();
        Play.type(x, "s10;p;b10;d10");
        CHECK.due("carryOut()", x.carryOut(), 4);
        CHECK.due("count(9)", x.count(9), 0);
        CHECK.due("fault()", x.fault(), 0);
        CHECK.due("of(10, 0)", x.of(10, 0), 1);
        CHECK.due("player(1, 0)", x.player(1, 0), 502);
        CHECK.due("count(0)", x.count(0), 4);
        CHECK.due("carryOut() of nothing", x.carryOut(), BAD_TEXT);
        Play.type(x, "p");
        CHECK.due("carryOut()", x.carryOut(), 1);
        CHECK.due("count(1)", x.count(1), 1);
    }

    private static void carryOutAllKinds() {
        String text = "c0;c81;s9;s10;w9;b10;c9;d9;p;p;d10;c40;s42;s7;s0";
        TailorChalks x = new TailorChalks();
        Play.type(x, text);
        CHECK.due("carryOut()", x.carryOut(), 15);
        TailorChalks y = new TailorChalks();
        y.chalk(0);
        y.chalk(81);
        y.snip(9);
        y.snip(10);
        y.sew(9);
        y.bluff(10);
        y.chalk(9);
        y.doubt(9);
        y.pass();
        y.pass();
        y.doubt(10);
        y.chalk(40);
        y.snip(42);
        y.snip(7);
        y.snip(0);
        CHECK.due("count(0)", y.count(0), 15);
        CHECK.due("print", Play.print(x), Play.print(y));
    }

    private static void carryOutUpToAnError() {
        TailorChalks x = new TailorChalks();
        Play.type(x, "p;s82;p;p");
        CHECK.due("carryOut()", x.carryOut(), 1);
        CHECK.due("count(0)", x.count(0), 1);
        CHECK.due("count(9)", x.count(9), 0);
        CHECK.due("count(10)", x.count(10), 1);
        Play.type(x, "c5;c6;w7;p");
        CHECK.due("carryOut()", x.carryOut(), 2);
        CHECK.due("count(0)", x.count(0), 3);
        CHECK.due("count(10)", x.count(10), 2);
        long before = Play.print(x);
        Play.type(x, "d5;p;p");
        CHECK.due("carryOut()", x.carryOut(), 0);
        CHECK.due("print", Play.print(x), before);
        CHECK.due("count(9)", x.count(9), 0);
        CHECK.due("count(10)", x.count(10), 3);
    }

    private static void carryOutIsOneChange() {
        TailorChalks x = new TailorChalks();
        x.chalk(0);
        long before = Play.print(x);
        Play.type(x, "c1;c2;s3;s4;s5;p;p;p;p;p");
        CHECK.due("carryOut()", x.carryOut(), 10);
        CHECK.due("count(10)", x.count(10), 2);
        Play.type(x, "p");
        CHECK.due("undo()", x.undo(), 1);
        CHECK.due("print", Play.print(x), before);
        CHECK.due("count(9)", x.count(9), 1);
        Play.type(x, ";w0");
        CHECK.due("carryOut()", x.carryOut(), 1);
        CHECK.due("undo()", x.undo(), 1);
        CHECK.due("undo()", x.undo(), 0);
    }

    private static void carryOutWithAFault() {
        TailorChalks x = new TailorChalks();
        String[] texts = {"p;", "p;x", "p;c100", "c"};
        for (String text : texts) {
            x.wipe();
            Play.type(x, text);
            CHECK.due("carryOut() of " + text, x.carryOut(), BAD_TEXT);
            CHECK.due("count(9)", x.count(9), text.length());
            CHECK.due("count(0)", x.count(0), 0);
            CHECK.due("count(10)", x.count(10), 0);
        }
        Play.type(x, "7");
        CHECK.due("carryOut() of c7", x.carryOut(), 1);
        CHECK.due("chalked(0, 0)", x.chalked(0, 0), 7);
    }

    private static void carryOutToTheEndOfTheGame() {
        TailorChalks x = new TailorChalks();
        Play.pass(x, 198);
        Play.type(x, "p;p;p;p");
        CHECK.due("carryOut()", x.carryOut(), 2);
        CHECK.due("count(2)", x.count(2), 1);
        Play.type(x, "p");
        CHECK.due("carryOut() if over", x.carryOut(), 0);
        CHECK.due("count(9)", x.count(9), 0);
        CHECK.due("undo()", x.undo(), 5);
        CHECK.due("count(2)", x.count(2), 1);
        CHECK.due("undo()", x.undo(), 4);
        CHECK.due("count(0)", x.count(0), 198);
    }
}
