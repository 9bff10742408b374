/** Each sentence of the terms of texts and of the promises 18 to 21 that names a boundary case. */
public final class TextsEdgesTest {
    private static final int BAD_VALUE = -2, BAD_TEXT = -3, TOO_MANY = -4, NOT_POSSIBLE = -5, NONE = -6;

    /** 80 characters, 40 passes and a ";" too many. */
    private static final String FULL = "p;".repeat(40);
    private static final Check CHECK = new Check("TextsEdgesTest");

    public static void main(String[] args) {
        terms();
        put();
        wipeAndFault();
        carryOut();
        CHECK.end();
    }

    private static void terms() {
        CHECK.section("Texts");
        CHECK.holds("The pad is a text of at most 80 characters", TextsEdgesTest::atMostEighty);
        CHECK.holds("text = order { \";\" order }", TextsEdgesTest::ordersAndSemicolons);
        CHECK.holds("order = ( \"c\" | \"s\" | \"w\" | \"b\" | \"d\" ) number | \"p\"", TextsEdgesTest::letters);
        CHECK.holds("all by the player whose turn it is", TextsEdgesTest::byWhoseTurnItIs);
        CHECK.holds("A number is 0 to 99, without leading zeros.", TextsEdgesTest::numbers);
        CHECK.holds("The fault is the index of the first character that cannot stand at its place when the text is read "
            + "from left to right", TextsEdgesTest::firstThatCannotStand);
        CHECK.holds("(also of a digit by which a number would be above 99)", TextsEdgesTest::digitAboveNinetyNine);
        CHECK.holds("if there is none and the text ends too early (also if it is empty), it is the length of the text",
            TextsEdgesTest::endsTooEarly);
    }

    private static void put() {
        CHECK.section("Promise 18: put");
        CHECK.holds("Appends characters to the pad.", TextsEdgesTest::putAppends);
        CHECK.holds("its lowest 8 bits are the last character, the next 8 bits the one before, and so on",
            TextsEdgesTest::orderOfCharacters);
        CHECK.holds("8 bits that are 0 mean that there are no more characters", TextsEdgesTest::noMoreCharacters);
        CHECK.holds("everything above them has to be 0, too", TextsEdgesTest::everythingAboveIsZero);
        CHECK.holds("1 to 8 characters", TextsEdgesTest::oneToEight);
        CHECK.holds("Returns the length of the pad then", TextsEdgesTest::lengthThen);
        CHECK.holds("BAD_VALUE if there is no character", TextsEdgesTest::noCharacter);
        CHECK.holds("a code is not 33 to 126", TextsEdgesTest::codes);
        CHECK.holds("or a bit above 8 bits that are 0 is not 0", TextsEdgesTest::bitsAbove);
        CHECK.holds("TOO_MANY if the pad would be longer than 80", TextsEdgesTest::longerThanEighty);
    }

    private static void wipeAndFault() {
        CHECK.section("Promise 19: wipe");
        CHECK.holds("Empties the pad, and returns the length that it had.", TextsEdgesTest::wipe);
        CHECK.section("Promise 20: fault");
        CHECK.holds("Returns the fault of the pad, NONE if there is none.", TextsEdgesTest::fault);
    }

    private static void carryOut() {
        CHECK.section("Promise 21: carryOut");
        CHECK.holds("one after the other, up to the first one that returns an error", TextsEdgesTest::upToTheFirstError);
        CHECK.holds("and empties the pad", TextsEdgesTest::emptiesThePad);
        CHECK.holds("This is a change (one, with all of them; also if none is carried out).", TextsEdgesTest::oneChange);
        CHECK.holds("Returns how many orders were carried out", TextsEdgesTest::howMany);
        CHECK.holds("BAD_TEXT if the pad has a fault (then it stays)", TextsEdgesTest::badText);
    }

    private static void faultOf(String text, int due) {
        TailorChalks x = Play.typed(text);
        CHECK.due("count(9) of " + text, x.count(9), text.length());
        CHECK.due("fault() of " + text, x.fault(), due);
    }

    // ---- terms

    private static void atMostEighty() {
        TailorChalks x = Play.typed(FULL);
        CHECK.due("count(9)", x.count(9), 80);
        CHECK.due("put(\"p\") as the 81st character", x.put('p'), TOO_MANY);
        CHECK.due("count(9)", x.count(9), 80);
        x = Play.typed(FULL.substring(0, 79));
        CHECK.due("put(\";\") as the 80th character", x.put(';'), 80);
        x = Play.typed("c0;p;" + "p;".repeat(37) + "p");
        CHECK.due("count(9)", x.count(9), 80);
        CHECK.due("fault() of 80 characters", x.fault(), NONE);
        CHECK.due("carryOut() of 80 characters", x.carryOut(), 40);
        CHECK.due("of(0, 4)", x.of(0, 4), 1);
        CHECK.due("count(0)", x.count(0), 40);
    }

    private static void ordersAndSemicolons() {
        faultOf("p", NONE);
        faultOf("p;p", NONE);
        faultOf("c1;s2;w3;b4;d5;p;c99", NONE);
        faultOf("", 0);
        faultOf(";", 0);
        faultOf(";p", 0);
        faultOf("p;", 2);
        faultOf("p;;p", 2);
        faultOf("pp", 1);
        faultOf("p,p", 1);
        faultOf("c1s2", 2);
        faultOf("c12s2", 3);
        faultOf("p:p", 1);
        faultOf("p<p", 1);
    }

    private static void letters() {
        for (int code = 33; code <= 126; code++) {
            String sign = String.valueOf((char) code);
            boolean kind = "cswbd".contains(sign);
            faultOf(sign + "7", kind ? NONE : sign.equals("p") ? 1 : 0);
            faultOf("p;" + sign, kind ? 3 : sign.equals("p") ? NONE : 2);
        }
        faultOf("p7", 1);
        faultOf("p0", 1);
        faultOf("cc7", 1);
        faultOf("c;p", 1);
        CHECK.due("of(2, 4) behind c2", behind("c2").of(2, 4), 1);
        CHECK.due("of(2, 0) behind s2", behind("s2").of(2, 0), 1);
        CHECK.due("of(0, 0) behind w0", behind("w0").of(0, 0), 2);
        CHECK.due("of(0, 0) behind b0", behind("b0").of(0, 0), 3);
        CHECK.due("player(0, 6) behind d1", behind("d1").player(0, 6), 1);
        CHECK.due("count(0) behind p", behind("p").count(0), 5);
    }

    /** The order is carried out by player 0; 0 is cut, 1 bluffed by player 1, 2 whole. */
    private static TailorChalks behind(String order) {
        TailorChalks x = Play.game("s0;s1;p;b1");
        Play.type(x, order);
        CHECK.due("carryOut() of " + order, x.carryOut(), 1);
        return x;
    }

    private static void byWhoseTurnItIs() {
        TailorChalks x = Play.typed("c0;c1;c2;c3");
        CHECK.due("carryOut()", x.carryOut(), 4);
        CHECK.due("chalked(0, 0)", x.chalked(0, 0), 0);
        CHECK.due("chalked(1, 0)", x.chalked(1, 0), 1);
        CHECK.due("chalked(0, 1)", x.chalked(0, 1), 2);
        CHECK.due("chalked(1, 1)", x.chalked(1, 1), 3);
        x = Play.game("p");
        Play.type(x, "c0");
        CHECK.due("carryOut() of player 1", x.carryOut(), 1);
        CHECK.due("chalked(1, 0)", x.chalked(1, 0), 0);
    }

    private static void numbers() {
        for (int number = 0; number <= 99; number++) {
            faultOf("s" + number, NONE);
        }
        faultOf("s100", 3);
        faultOf("s00", 2);
        faultOf("s01", 2);
        faultOf("s09", 2);
        faultOf("s000", 2);
        faultOf("s0;s0", NONE);
        faultOf("s-1", 1);
        faultOf("s+1", 1);
        faultOf("s/", 1);
        faultOf("s:", 1);
        faultOf("s1/", 2);
        faultOf("s1:", 2);
        // The number is that of the joint: 0, 9, 10 and 81 are there, 82 and 99 are not.
        int[] joints = {0, 9, 10, 41, 42, 81};
        for (int joint : joints) {
            TailorChalks x = Play.typed("p;s" + joint + ";p");
            CHECK.due("carryOut() with s" + joint, x.carryOut(), 3);
            CHECK.due("of(" + joint + ", 0)", x.of(joint, 0), 1);
            CHECK.due("count(6)", x.count(6), 1);
        }
        CHECK.due("carryOut() with s82", Play.typed("p;s82;p").carryOut(), 1);
        CHECK.due("carryOut() with s99", Play.typed("p;s99;p").carryOut(), 1);
    }

    private static void firstThatCannotStand() {
        faultOf("x", 0);
        faultOf("p;x;y", 2);
        faultOf("p;s1x;y", 4);
        faultOf("s1;s2;s3;!", 9);
        faultOf("!;!", 0);
        faultOf("c01;x", 2);
        faultOf("p;c100;c01", 5);
        // Behind the fault, nothing is read: that the text ends too early is not told.
        faultOf("p!c", 1);
        // At each place of a full pad.
        for (int index = 0; index < 80; index++) {
            faultOf(FULL.substring(0, index) + "x" + FULL.substring(index + 1), index);
        }
    }

    private static void digitAboveNinetyNine() {
        faultOf("c99", NONE);
        faultOf("c100", 3);
        faultOf("c990", 3);
        faultOf("c999", 3);
        faultOf("c1000", 3);
        faultOf("c10;c100", 7);
        faultOf("d820", 3);
        TailorChalks x = Play.typed("c99");
        CHECK.due("fault()", x.fault(), NONE);
        x.put('9');
        CHECK.due("fault() with one digit more", x.fault(), 3);
    }

    private static void endsTooEarly() {
        faultOf("", 0);
        String[] letters = {"c", "s", "w", "b", "d"};
        for (String letter : letters) {
            faultOf(letter, 1);
            faultOf("p;" + letter, 3);
        }
        faultOf("p;", 2);
        faultOf("c1;", 3);
        faultOf("c99;", 4);
        faultOf(FULL, 80);
        faultOf(FULL.substring(0, 79), NONE);
        faultOf("p;".repeat(39) + "pc", 79);
        faultOf("p;".repeat(39) + "c", 79);
        faultOf("s10;".repeat(19) + "s10c", 79);
        // A text that could go on, but need not, does not end too early.
        faultOf("c1", NONE);
        faultOf("p", NONE);
        TailorChalks x = Play.typed("p");
        x.wipe();
        CHECK.due("fault() when wiped", x.fault(), 0);
    }

    // ---- put

    private static void putAppends() {
        TailorChalks x = new TailorChalks();
        CHECK.due("put(\"s\")", x.put('s'), 1);
        CHECK.due("put(\"1\")", x.put('1'), 2);
        CHECK.due("put(\"2;s3\")", x.put(Play.packed("2;s3")), 6);
        CHECK.due("carryOut()", x.carryOut(), 2);
        CHECK.due("of(12, 0)", x.of(12, 0), 1);
        CHECK.due("of(3, 0)", x.of(3, 0), 1);
        CHECK.due("count(6)", x.count(6), 2);
        // Behind an error, too, it goes on where it was.
        x.put('s');
        x.put(0);
        x.put(32);
        CHECK.due("put(\"4\")", x.put('4'), 2);
        CHECK.due("carryOut()", x.carryOut(), 1);
        CHECK.due("of(4, 0)", x.of(4, 0), 1);
    }

    private static void orderOfCharacters() {
        TailorChalks x = new TailorChalks();
        CHECK.due("put(\"s67\")", x.put('s' << 16 | '6' << 8 | '7'), 3);
        CHECK.due("carryOut()", x.carryOut(), 1);
        CHECK.due("of(67, 0)", x.of(67, 0), 1);
        x = new TailorChalks();
        // All 8 of them, which need the upper half of the number.
        CHECK.due("put(\"s1;s2;s3\")", x.put(0x73313B73323B7333L), 8);
        CHECK.due("fault()", x.fault(), NONE);
        CHECK.due("carryOut()", x.carryOut(), 3);
        for (int joint = 1; joint <= 3; joint++) {
            CHECK.due("of(" + joint + ", 0)", x.of(joint, 0), 1);
        }
        // A fault tells where each one stands.
        for (int place = 0; place < 8; place++) {
            x = new TailorChalks();
            long fault = (long) ('x' ^ "p;p;p;p;".charAt(place)) << 8 * (7 - place);
            CHECK.due("put with \"x\" at " + place, x.put(Play.packed("p;p;p;p;") ^ fault), 8);
            CHECK.due("fault() with \"x\" at " + place, x.fault(), place);
        }
    }

    private static void noMoreCharacters() {
        for (int many = 1; many <= 8; many++) {
            String text = "p;p;p;p;".substring(0, many);
            TailorChalks x = new TailorChalks();
            CHECK.due("put of " + many, x.put(Play.packed(text)), many);
            CHECK.due("count(9)", x.count(9), many);
            CHECK.due("fault()", x.fault(), many % 2 == 0 ? many : NONE);
        }
    }

    private static void everythingAboveIsZero() {
        // One zero at each place below the highest of 8 characters.
        for (int place = 0; place < 7; place++) {
            long characters = Play.packed("pppppppp") & ~(255L << 8 * place);
            wrong(characters);
        }
        // "p", 8 bits of 0, and one bit above them.
        for (int bit = 16; bit < 64; bit++) {
            wrong('p' | 1L << bit);
        }
    }

    private static void wrong(long characters) {
        TailorChalks x = new TailorChalks();
        CHECK.due("put(" + characters + ")", x.put(characters), BAD_VALUE);
        CHECK.due("count(9)", x.count(9), 0);
    }

    private static void oneToEight() {
        CHECK.due("put of 1", new TailorChalks().put(33), 1);
        CHECK.due("put of 8 of the lowest code", new TailorChalks().put(0x2121212121212121L), 8);
        CHECK.due("put of 8 of the highest code", new TailorChalks().put(0x7E7E7E7E7E7E7E7EL), 8);
        CHECK.due("put of none", new TailorChalks().put(0), BAD_VALUE);
    }

    private static void lengthThen() {
        TailorChalks x = new TailorChalks();
        for (int length = 1; length <= 80; length++) {
            CHECK.due("put(\"p\")", x.put('p'), length);
        }
        CHECK.due("count(9)", x.count(9), 80);
        x.wipe();
        CHECK.due("put(\"p\") when wiped", x.put('p'), 1);
        x.carryOut();
        CHECK.due("put(\"p;p\") when carried out", x.put(Play.packed("p;p")), 3);
    }

    private static void noCharacter() {
        wrong(0);
        TailorChalks x = Play.typed("p");
        CHECK.due("put(0)", x.put(0), BAD_VALUE);
        CHECK.due("count(9)", x.count(9), 1);
        // Also when there are characters above, but none in the lowest 8 bits.
        wrong('p' << 8);
        wrong((long) 'p' << 56);
    }

    private static void codes() {
        for (int place = 0; place < 8; place++) {
            long others = Play.packed("pppppppp") & ~(255L << 8 * place);
            int[] wrong = {1, 10, 31, 32, 127, 128, 161, 240, 254, 255};
            for (int code : wrong) {
                wrong(others | (long) code << 8 * place);
            }
            CHECK.due("put with 33", new TailorChalks().put(others | 33L << 8 * place), 8);
            CHECK.due("put with 126", new TailorChalks().put(others | 126L << 8 * place), 8);
        }
        for (int code = 1; code <= 255; code++) {
            int due = code >= 33 && code <= 126 ? 1 : BAD_VALUE;
            CHECK.due("put(" + code + ")", new TailorChalks().put(code), due);
        }
        wrong(-1);
        wrong(Long.MIN_VALUE);
        wrong(Long.MAX_VALUE);
        wrong(256 + 32);
    }

    private static void bitsAbove() {
        wrong('p' << 16 | 'p');
        wrong((long) 'p' << 56 | 'p');
        wrong(1L << 63 | 'p');
        wrong(1L << 16 | 'p');
        wrong(Play.packed("pppp") | 1L << 40);
        wrong(Play.packed("pppppp") | 1L << 56);
        // A code that is wrong is the same error, whatever stands above.
        wrong('p' << 8 | 32);
    }

    private static void longerThanEighty() {
        TailorChalks x = Play.typed(FULL);
        CHECK.due("put of 1 behind 80", x.put('p'), TOO_MANY);
        CHECK.due("put of 8 behind 80", x.put(Play.packed("pppppppp")), TOO_MANY);
        for (int length = 73; length <= 80; length++) {
            int room = 80 - length;
            x = Play.typed(FULL.substring(0, length));
            CHECK.due("put of one too many behind " + length, x.put(Play.packed("pppppppp".substring(0, room + 1))), TOO_MANY);
            CHECK.due("count(9)", x.count(9), length);
            if (room > 0) {
                CHECK.due("put of " + room + " behind " + length, x.put(Play.packed("pppppppp".substring(0, room))), 80);
            }
        }
        x = Play.typed(FULL.substring(0, 72));
        CHECK.due("put of 8 behind 72", x.put(Play.packed("pppppppp")), 80);
    }

    // ---- wipe, fault

    private static void wipe() {
        TailorChalks x = new TailorChalks();
        CHECK.due("wipe() of an empty pad", x.wipe(), 0);
        Play.type(x, FULL);
        CHECK.due("wipe() of a full pad", x.wipe(), 80);
        CHECK.due("count(9)", x.count(9), 0);
        CHECK.due("wipe() when wiped", x.wipe(), 0);
        CHECK.due("fault() when wiped", x.fault(), 0);
        x.put('x');
        CHECK.due("wipe() of a text with a fault", x.wipe(), 1);
        // It is no change.
        CHECK.due("count(10)", x.count(10), 0);
        x = Play.overByTurns();
        x.put('p');
        CHECK.due("wipe() if over", x.wipe(), 1);
    }

    private static void fault() {
        TailorChalks x = new TailorChalks();
        CHECK.due("fault() of an empty pad", x.fault(), 0);
        x.put('p');
        CHECK.due("fault() of p", x.fault(), NONE);
        CHECK.due("fault() once more", x.fault(), NONE);
        CHECK.due("count(9)", x.count(9), 1);
        x.put(';');
        CHECK.due("fault() of p;", x.fault(), 2);
        x.put(';');
        CHECK.due("fault() of p;;", x.fault(), 2);
        // Whether an order can be done is no matter of the text.
        faultOf("w0;d99;b5", NONE);
        x = Play.overByTurns();
        x.put('p');
        CHECK.due("fault() if over", x.fault(), NONE);
    }

    // ---- carryOut

    private static void upToTheFirstError() {
        String[] wrong = {"c82", "s99", "w5", "b5", "d5"};
        for (String order : wrong) {
            TailorChalks x = Play.typed("s1;" + order + ";s2");
            CHECK.due("carryOut() with " + order + " amid others", x.carryOut(), 1);
            CHECK.due("of(1, 0)", x.of(1, 0), 1);
            CHECK.due("of(2, 0)", x.of(2, 0), 0);
            CHECK.due("count(0)", x.count(0), 1);
            x = Play.typed(order + ";s1");
            CHECK.due("carryOut() with " + order + " first", x.carryOut(), 0);
            CHECK.due("of(1, 0)", x.of(1, 0), 0);
            x = Play.typed("s1;s2;" + order);
            CHECK.due("carryOut() with " + order + " last", x.carryOut(), 2);
            CHECK.due("of(2, 0)", x.of(2, 0), 1);
        }
        // Pass is an error when the game is over, and so is the ninth chalk.
        TailorChalks x = new TailorChalks();
        Play.pass(x, 198);
        Play.type(x, "p;p;p;p");
        CHECK.due("carryOut() over the end of the game", x.carryOut(), 2);
        CHECK.due("count(0)", x.count(0), 200);
        x = Play.game("c20;p;c21;p;c22;p;c23;p;c24;p;c25;p;c26;p");
        Play.type(x, "c27;p;c28;p");
        CHECK.due("carryOut() with a ninth chalk", x.carryOut(), 2);
    }

    private static void emptiesThePad() {
        String[] texts = {"p", "p;s82;p", "s82", "p;".repeat(39) + "p"};
        for (String text : texts) {
            TailorChalks x = Play.typed(text);
            x.carryOut();
            CHECK.due("count(9) behind " + text, x.count(9), 0);
            CHECK.due("fault() behind " + text, x.fault(), 0);
            CHECK.due("carryOut() once more", x.carryOut(), BAD_TEXT);
            CHECK.due("put(\"p\")", x.put('p'), 1);
            CHECK.due("carryOut() of p", x.carryOut(), 1);
        }
    }

    private static void oneChange() {
        TailorChalks x = Play.typed("s1;s2;s3;s4;s5;s6;s7;s8");
        CHECK.due("carryOut() of 8 orders", x.carryOut(), 8);
        CHECK.due("count(10)", x.count(10), 1);
        CHECK.due("undo()", x.undo(), 0);
        CHECK.due("count(0)", x.count(0), 0);
        CHECK.due("count(6)", x.count(6), 0);
        Play.type(x, "s82;p");
        CHECK.due("carryOut() of none", x.carryOut(), 0);
        CHECK.due("count(10)", x.count(10), 1);
        CHECK.due("undo() of none", x.undo(), 0);
        CHECK.due("undo()", x.undo(), NOT_POSSIBLE);
        x = Play.overByTurns();
        Play.type(x, "p");
        CHECK.due("carryOut() if over", x.carryOut(), 0);
        CHECK.due("undo() of none", x.undo(), 5);
        CHECK.due("count(0)", x.count(0), 200);
        CHECK.due("undo() of the last pass", x.undo(), 4);
        CHECK.due("count(0)", x.count(0), 199);
    }

    private static void howMany() {
        CHECK.due("carryOut() of one", Play.typed("p").carryOut(), 1);
        CHECK.due("carryOut() of 40", Play.typed("p;".repeat(39) + "p").carryOut(), 40);
        CHECK.due("carryOut() of none", Play.typed("d0").carryOut(), 0);
        // Orders that answer 0 are carried out: a snip without rag, the last thread, a wrong doubt.
        TailorChalks x = Play.game("s0;s1;s2;s3;s4;s5;w0;p;w1;p;w2;p;w3;p");
        Play.type(x, "w4;d4;s9;p");
        CHECK.due("carryOut() of orders that answer 0", x.carryOut(), 4);
    }

    private static void badText() {
        String[] texts = {"", "c", "p;", "p;p;x", "c100", "s1;s01", FULL};
        for (String text : texts) {
            TailorChalks x = Play.typed(text);
            CHECK.due("carryOut() of " + text, x.carryOut(), BAD_TEXT);
            CHECK.due("count(9) of " + text, x.count(9), text.length());
            CHECK.due("count(0)", x.count(0), 0);
            CHECK.due("count(10)", x.count(10), 0);
        }
        // It stays, and can be brought to its end.
        TailorChalks x = Play.typed("p;s");
        CHECK.due("carryOut()", x.carryOut(), BAD_TEXT);
        x.put('7');
        CHECK.due("carryOut()", x.carryOut(), 2);
        CHECK.due("of(7, 0)", x.of(7, 0), 1);
        x = Play.overByTurns();
        Play.type(x, "p;");
        CHECK.due("carryOut() if over", x.carryOut(), BAD_TEXT);
    }
}
