/** Each sentence of the promises 24 to 27 that names a boundary case, with a test of its own. */
public final class TextBoundaryTests extends Boundaries {

    private static void put() {
        heading("Promise 24: put");
        test("its lowest 8 bits are the last character, the next 8 bits the one before, and so on", () -> {
            CartPitches x = new CartPitches();
            due("put of cA", x.put('c' << 8 | 'A'), 2);
            due("cA", x.fault(), NONE);
            x.wipe();
            due("put of Ac", x.put('A' << 8 | 'c'), 2);
            due("Ac", x.fault(), 0);
            x.wipe();
            // 8 characters, the topmost bits among them: d, 9, ;, c, A, ;, d, 1 and, with a fault at each place but the first, one of them bad.
            due("put of 8", x.put(packed("d9;cA;d1")), 8);
            due("8 in their order", x.fault(), NONE);
            for (int i = 0; i < 8; i++) {
                x.wipe();
                x.put(packed("d9;cA;d1".substring(0, i) + "~" + "d9;cA;d1".substring(i + 1)));
                due("a fault at " + i, x.fault(), i);
            }
        });
        test("8 bits that are 0 mean that there are no more characters, and everything above them has to be 0, too", () -> {
            for (int given = 1; given < 8; given++) {
                CartPitches x = new CartPitches();
                long characters = packed("AAAAAAA".substring(0, given));
                due("put of " + given, x.put(characters), given);
                for (int bit = 8 * given + 8; bit < 64; bit++) {
                    due("put of " + given + " and the bit " + bit, x.put(characters | 1L << bit), BAD_VALUE);
                }
                due("the pad", x.count(PAD), given);
            }
        });
        test("characters: 1 to 8 characters", () -> {
            CartPitches x = new CartPitches();
            due("1", x.put(packed("A")), 1);
            due("8", x.put(packed("AAAAAAAA")), 9);
            due("7", x.put(packed("AAAAAAA")), 16);
        });
        test("Returns the length of the pad then", () -> {
            CartPitches x = new CartPitches();
            int length = 0;
            for (int given = 1; given <= 8; given++) {
                length += given;
                due("put of " + given, x.put(packed("AAAAAAAA".substring(0, given))), length);
            }
            x.wipe();
            due("behind wipe()", x.put(packed("A")), 1);
        });
        test("BAD_VALUE if there is no character", () -> {
            CartPitches x = new CartPitches();
            due("put(0)", x.put(0), BAD_VALUE);
            due("nothing below a character", x.put((long) 'A' << 8), BAD_VALUE);
            due("nothing below the top character", x.put((long) 'A' << 56), BAD_VALUE);
            due("nothing below the top bit", x.put(Long.MIN_VALUE), BAD_VALUE);
            due("the pad", x.count(PAD), 0);
        });
        test("a code is not 33 to 126", () -> {
            for (int code = 1; code < 256; code++) {
                for (int place = 0; place < 8; place++) {
                    CartPitches x = new CartPitches();
                    long others = packed("AAAAAAAA") & ~(255L << 8 * place);
                    boolean good = code >= 33 && code <= 126;
                    due("put of the code " + code + " at " + place, x.put(others | (long) code << 8 * place), good ? 8 : BAD_VALUE);
                    due("the pad", x.count(PAD), good ? 8 : 0);
                }
                due("put of the code " + code, new CartPitches().put(code), code >= 33 && code <= 126 ? 1 : BAD_VALUE);
            }
        });
        test("or a bit above 8 bits that are 0 is not 0", () -> {
            CartPitches x = new CartPitches();
            due("a good character above", x.put((long) 'A' << 16 | 'A'), BAD_VALUE);
            due("a bad one above", x.put((long) 1 << 16 | 'A'), BAD_VALUE);
            due("the top character", x.put((long) 'A' << 56 | packed("AAAAAA")), BAD_VALUE);
            due("the top bit", x.put(Long.MIN_VALUE | packed("AAAAAA")), BAD_VALUE);
            due("the pad", x.count(PAD), 0);
        });
        test("TOO_MANY if the pad would be longer than 80", () -> {
            for (int given = 1; given <= 8; given++) {
                CartPitches x = new CartPitches();
                String some = "AAAAAAAA".substring(0, given);
                put(x, "A".repeat(81 - given));
                due(given + " to 81", x.put(packed(some)), TOO_MANY);
                due("the pad", x.count(PAD), 81 - given);
                due(given - 1 + " to 80", given == 1 ? x.count(PAD) : x.put(packed(some.substring(1))), 80);
                due("1 to 81", x.put(packed("A")), TOO_MANY);
                due("wipe()", x.wipe(), 80);
                due("behind wipe()", x.put(packed(some)), given);
            }
        });
    }

    private static void wipe() {
        heading("Promise 25: wipe");
        test("Empties the pad, and returns the length that it had.", () -> {
            CartPitches x = new CartPitches();
            due("empty", x.wipe(), 0);
            for (int length = 1; length <= 80; length += 79) {
                put(x, "A".repeat(length));
                due("wipe()", x.wipe(), length);
                due("the pad", x.count(PAD), 0);
                due("wipe() again", x.wipe(), 0);
            }
            put(x, "cA");
            x.wipe();
            put(x, "d1");
            due("nothing of the old text", x.carryOut(), 1);
            due("today", x.count(TODAY), 1);
        });
    }

    private static void fault() {
        heading("Promise 26: fault");
        test("Returns the fault of the pad, NONE if there is none.", () -> {
            CartPitches x = new CartPitches();
            due("an empty pad", x.fault(), 0);
            put(x, "cA;d1");
            due("no fault", x.fault(), NONE);
            put(x, "0");
            due("no fault", x.fault(), NONE);
            put(x, "0");
            due("a number above 99", x.fault(), 6);
            put(x, "cA");
            due("the first fault", x.fault(), 6);
            x.wipe();
            // What is a letter of a cart or a pitch that there is not is no fault.
            put(x, "wP9;fP9;cP;sPP;d99");
            due("carts and pitches that there are not", x.fault(), NONE);
            x.wipe();
            put(x, "w".repeat(80));
            due("a fault at 1", x.fault(), 1);
            due("the pad stays", x.count(PAD), 80);
        });
    }

    private static void carryOut() {
        heading("Promise 27: carryOut");
        test("Carries the orders of the pad out, one after the other, up to the first one that returns an error", () -> {
            String[] bad = {"wP", "wA9", "wA00", "wA010", "fP1", "cP", "cC", "sAA", "sAP", "sPA", "d0", "d61", "d99"};
            for (String order : bad) {
                dueCarriedOut(order, 0, 0);
                dueCarriedOut(order + ";fA1", 0, 0);
                dueCarriedOut("fA1;" + order, 1, 1);
                dueCarriedOut("fA1;" + order + ";fA1", 1, 1);
                dueCarriedOut("fA1;fA1;" + order + ";fA1;fA1", 2, 2);
            }
        });
        test("one after the other", () -> {
            CartPitches x = pairs(2);
            put(x, "wA;d1;wA0;d1;fB6;fB5;fB1;d1");
            due("carryOut()", x.carryOut(), 8);
            due("days", x.ofCart(0, DAYS), 2);
            due("days of the other", x.ofCart(1, DAYS), 2);
            due("banned on the second day", x.ofCart(1, BANNED_UP_TO), 16);
            // The same check twice: the second time it waits already, but not if a day passes between.
            put(x, "cA;cA");
            due("carryOut()", x.carryOut(), 1);
            put(x, "d1;cA;d1;cA");
            due("carryOut()", x.carryOut(), 4);
            put(x, "sAB;sAB;sAB;sAB;sAB;sAB;sAB;sAB;sAB;d1");
            due("the ninth swap", x.carryOut(), 8);
            due("swaps", x.count(SWAPS), 8);
        });
        test("and empties the pad", () -> {
            CartPitches x = pairs(2);
            String[] texts = {"d1", "d0", "d1;d0;d1", "cA;".repeat(26) + "d9"};
            for (String text : texts) {
                put(x, text);
                x.carryOut();
                due("the pad behind " + text, x.count(PAD), 0);
                due("its fault", x.fault(), 0);
                due("carried out again", x.carryOut(), BAD_TEXT);
            }
        });
        test("This is a change (one, with all of them; also if none is carried out).", () -> {
            CartPitches x = pairs(1);
            x.undo();
            x.undo();
            int before = x.count(UNDOABLE);
            put(x, "fA1;d1;fA2;d60;cA");
            due("carryOut()", x.carryOut(), 0);
            due("none was carried out: one change", x.count(UNDOABLE), before + 1);
            CartPitches y = pairs(2);
            y.undo();
            int undoable = y.count(UNDOABLE);
            put(y, "fA1;d1;fA2;d60;cA");
            due("carryOut()", y.carryOut(), 5);
            due("five were carried out: one change", y.count(UNDOABLE), undoable + 1);
            due("undo()", y.undo(), undoable);
            due("today", y.count(TODAY), 0);
            due("points", y.ofCart(0, POINTS), 0);
        });
        test("Returns how many orders were carried out", () -> {
            CartPitches x = pairs(2);
            due("1", carriedOut(x, "d1"), 1);
            due("0", carriedOut(x, "d0"), 0);
            due("2", carriedOut(x, "cA;wB"), 2);
            due("27 of 80 characters", carriedOut(x, "wA;".repeat(26) + "wB"), 27);
            due("all but the last", carriedOut(x, "wA;".repeat(26) + "wC"), 26);
        });
        test("BAD_TEXT if the pad has a fault (then it stays)", () -> {
            String[] texts = {"", "x", "fA1;", "fA1;d", "fA1;d100", "fA1;wA0123", "fA1;cQ", "fA1;;", "fA".repeat(40)};
            for (String text : texts) {
                CartPitches x = pairs(2);
                put(x, text);
                int fault = x.fault();
                int undoable = x.count(UNDOABLE);
                due("carryOut() of " + text, x.carryOut(), BAD_TEXT);
                due("the pad", x.count(PAD), text.length());
                due("its fault", x.fault(), fault);
                due("changes", x.count(UNDOABLE), undoable);
                due("points", x.ofCart(0, POINTS), 0);
            }
            CartPitches x = pairs(2);
            put(x, "fA1;");
            x.carryOut();
            put(x, "fA2");
            due("what stayed and what came", x.carryOut(), 2);
            due("points", x.ofCart(0, POINTS), 3);
        });
    }

    private static int carriedOut(CartPitches x, String text) {
        put(x, text);
        return x.carryOut();
    }

    /** Carries a text out on a row with two carts, of which the second waits for a check already. */
    private static void dueCarriedOut(String text, int orders, int points) {
        CartPitches x = pairs(3);
        x.undo();
        x.undo();
        x.check(1);
        due("carryOut() of " + text, carriedOut(x, text), orders);
        due("points behind " + text, x.ofCart(0, POINTS), points);
        due("wishes behind " + text, x.ofCart(0, WISHES), 1);
        due("swaps behind " + text, x.count(SWAPS), 0);
        due("today behind " + text, x.count(TODAY), 0);
    }

    public static void main(String[] args) {
        put();
        wipe();
        fault();
        carryOut();
        end();
    }
}
