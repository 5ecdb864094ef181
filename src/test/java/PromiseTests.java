/** Promise by promise: ordinary inputs, the edges that the document names, and wrong inputs, with answers worked out by hand. */
public final class PromiseTests {
    private static final int NO_SUCH = -1, BAD_VALUE = -2, BAD_TEXT = -3, TOO_MANY = -4, NOT_POSSIBLE = -5, NONE = -6;
    private static final int LEAST_INT = Integer.MIN_VALUE, MOST_INT = Integer.MAX_VALUE;

    private static int wrong = 0;
    private static int promise = 0;

    private static void due(String call, long got, long want) {
        if (got != want) {
            wrong++;
            System.out.println("promise " + promise + ": " + call + " answered " + got + ", due is " + want);
        }
    }

    /** A row of so many pitches with the rents 100, 200, .. */
    private static CartPitches row(int pitches) {
        CartPitches x = new CartPitches();
        for (int i = 0; i < pitches; i++) {
            x.pitch(100 * (i + 1));
        }
        return x;
    }

    /** Adds a cart of 1 hour with the wishes. */
    private static int cart(CartPitches x, int kind, int... wishes) {
        int number = x.cart(kind, 1);
        x.wish(number, wishes.length > 0 ? wishes[0] : NONE, wishes.length > 1 ? wishes[1] : NONE, wishes.length > 2 ? wishes[2] : NONE);
        return number;
    }

    private static int put(CartPitches x, String text) {
        int length = 0;
        for (int i = 0; i < text.length(); i += 8) {
            long packed = 0;
            for (int j = i; j < Math.min(i + 8, text.length()); j++) {
                packed = packed << 8 | text.charAt(j);
            }
            length = x.put(packed);
        }
        return length;
    }

    private static void newObject() {
        CartPitches x = new CartPitches();
        int[] counts = {0, 0, 0, 1, 0, 0, 0, 0, 8, 60, 2, 12, 14, 90, 500, 2, 11, 200, 0, 0};
        for (int what = 0; what < counts.length; what++) {
            due("count(" + what + ")", x.count(what), counts[what]);
        }
        due("ofCart(0, 0)", x.ofCart(0, 0), NO_SUCH);
        due("ofPitch(0, 0)", x.ofPitch(0, 0), NO_SUCH);
        due("fault()", x.fault(), 0);
        due("undo()", x.undo(), NOT_POSSIBLE);
        due("restore(0)", x.restore(0), NOT_POSSIBLE);
        due("restore(1)", x.restore(1), NOT_POSSIBLE);
        due("days(1)", x.days(1), 1);
        due("seed unmoved without lots", x.count(3), 1);
    }

    private static void set() {
        CartPitches x = new CartPitches();
        int[] first = {8, 60, 2, 12, 14, 90, 500, 2, 11, 200};
        int[] least = {1, 1, 1, 3, 1, 1, 0, 0, 6, 0};
        int[] most = {20, 200, 8, 30, 60, 200, 10000, 9, 14, 5000};
        for (int s = 0; s < 10; s++) {
            due("set(" + s + ", least - 1)", x.set(s, least[s] - 1), BAD_VALUE);
            due("set(" + s + ", most + 1)", x.set(s, most[s] + 1), BAD_VALUE);
            due("set(" + s + ", least)", x.set(s, least[s]), first[s]);
            due("set(" + s + ", most)", x.set(s, most[s]), least[s]);
            due("count(8 + " + s + ")", x.count(8 + s), most[s]);
        }
        due("set(-1, 1)", x.set(-1, 1), BAD_VALUE);
        due("set(10, 1)", x.set(10, 1), BAD_VALUE);
        due("set(least, 1)", x.set(LEAST_INT, 1), BAD_VALUE);
        due("set(most, 1)", x.set(MOST_INT, 1), BAD_VALUE);
        due("undo() of a set", x.undo(), 5);
        due("SWAP behind undo", x.count(17), 0);
    }

    private static void seed() {
        CartPitches x = row(1);
        due("seed(0)", x.seed(0), 1);
        due("seed(65536)", x.seed(65536), 0);
        due("seed(65537)", x.seed(65537), BAD_VALUE);
        due("seed(-1)", x.seed(-1), BAD_VALUE);
        due("count(3)", x.count(3), 65536);
        cart(x, 0, 0);
        x.days(1);
        // 65536 stands for -1: 75 * -1 + 74 = -1
        due("x of 65536", x.count(3), 65536);
        x.seed(0);
        x.days(1);
        due("x of 0", x.seed(5), 74);
        due("undo() of a seed", x.undo(), 5);
        due("x behind undo", x.count(3), 74);
    }

    private static void pitch() {
        CartPitches x = new CartPitches();
        due("pitch(-1)", x.pitch(-1), BAD_VALUE);
        due("pitch(20001)", x.pitch(20001), BAD_VALUE);
        due("no pitch", x.count(2), 0);
        for (int i = 0; i < 10; i++) {
            due("pitch", x.pitch(i == 0 ? 0 : 20000), i);
            due("pitches", x.count(2), i + 1);
        }
        due("pitch(5)", x.pitch(5), TOO_MANY);
        due("pitch(-1), full", x.pitch(-1), BAD_VALUE);
        due("first rent", x.ofPitch(0, 0), 0);
        due("last rent", x.ofPitch(9, 0), 20000);
        due("undo()", x.undo(), 5);
        due("pitches behind undo", x.count(2), 9);
        due("pitch(7)", x.pitch(7), 9);
        due("its rent", x.ofPitch(9, 0), 7);
    }

    private static void rent() {
        CartPitches x = row(2);
        due("rent(0, 50)", x.rent(0, 50), 100);
        due("rent(0, 0)", x.rent(0, 0), 50);
        due("rent(1, 20000)", x.rent(1, 20000), 200);
        due("rent(1, 20001)", x.rent(1, 20001), BAD_VALUE);
        due("rent(1, -1)", x.rent(1, -1), BAD_VALUE);
        due("rent(2, 1)", x.rent(2, 1), NO_SUCH);
        due("rent(-1, 1)", x.rent(-1, 1), NO_SUCH);
        due("rent(2, -1)", x.rent(2, -1), NO_SUCH);
        due("ofPitch(1, 0)", x.ofPitch(1, 0), 20000);
        due("undo()", x.undo(), 4);
        due("ofPitch(1, 0)", x.ofPitch(1, 0), 200);
        cart(x, 0, 1);
        x.days(1);
        x.rent(1, 300);
        x.days(1);
        due("rents at both prices", x.money(0, 2), 500);
        due("rents of the pitch", x.ofPitch(1, 2), 500);
    }

    private static void carts() {
        CartPitches x = row(1);
        due("cart(-1, 1)", x.cart(-1, 1), BAD_VALUE);
        due("cart(6, 1)", x.cart(6, 1), BAD_VALUE);
        due("cart(0, 0)", x.cart(0, 0), BAD_VALUE);
        due("cart(0, 7)", x.cart(0, 7), BAD_VALUE);
        due("cart(0, 1)", x.cart(0, 1), 0);
        due("cart(5, 6)", x.cart(5, 6), 1);
        x.days(3);
        x.set(1, 10);
        due("cart(2, 3)", x.cart(2, 3), 2);
        due("check of the new one", x.ofCart(2, 7), 13);
        due("check of the old one", x.ofCart(1, 7), 60);
        int[] fresh = {2, 3, 0, NONE, NONE, NONE, 0, 13, 0, 0, NONE, 0, NONE, NONE, 0, NONE};
        for (int what = 0; what < 16; what++) {
            due("ofCart(2, " + what + ")", x.ofCart(2, what), fresh[what]);
        }
        for (int i = 3; i < 16; i++) {
            due("cart", x.cart(1, 1), i);
        }
        due("cart(0, 1), full", x.cart(0, 1), TOO_MANY);
        due("cart(6, 1), full", x.cart(6, 1), BAD_VALUE);
        due("carts", x.count(1), 16);
        // A number is used again behind undo: nothing of the undone cart may stay.
        due("fine(15, 4)", x.fine(15, 4), 4);
        x.wish(15, 0, NONE, NONE);
        x.check(15);
        x.undo();
        x.undo();
        x.undo();
        x.undo();
        due("carts behind undo", x.count(1), 15);
        due("cart(4, 2) anew", x.cart(4, 2), 15);
        int[] anew = {4, 2, 0, NONE, NONE, NONE, 0, 13, 0, 0, NONE, 0, NONE, NONE, 0, NONE};
        for (int what = 0; what < 16; what++) {
            due("ofCart(15, " + what + ")", x.ofCart(15, what), anew[what]);
        }
        for (int what = 0; what < 5; what++) {
            due("money(15, " + what + ")", x.money(15, what), 0);
        }
        numbersUsedAgain();
    }

    /** Behind restore() a number is used again that a cart or a pitch had with all that happened to it. */
    private static void numbersUsedAgain() {
        CartPitches x = row(2);
        cart(x, 0, 0);
        x.save(0);
        cart(x, 1, 1);
        cart(x, 2, 1);
        x.pay(1, 5);
        x.fine(1, 2);
        x.pay(2, 5);
        x.fine(2, 2);
        x.pitch(9);
        x.wish(0, 2, NONE, NONE);
        x.swap(0, 1);
        x.swap(0, 2);
        x.days(4);
        x.check(1);
        x.check(2);
        x.fine(1, 9);
        x.fine(1, 9);
        due("banned", x.ofCart(1, 10), 18);
        due("points that stay", x.fine(2, 5) > 0 ? 1 : 0, 1);
        x.set(5, 200);
        x.set(3, 30);
        x.restore(0);
        due("cart anew", x.cart(3, 4), 1);
        due("cart anew", x.cart(3, 4), 2);
        int[] anew = {3, 4, 0, NONE, NONE, NONE, 0, 60, 0, 0, NONE, 0, NONE, NONE, 0, NONE};
        for (int c = 1; c <= 2; c++) {
            for (int what = 0; what < 16; what++) {
                due("ofCart(" + c + ", " + what + ") anew", x.ofCart(c, what), anew[what]);
            }
            for (int what = 0; what < 5; what++) {
                due("money(" + c + ", " + what + ") anew", x.money(c, what), 0);
            }
        }
        due("pitch anew", x.pitch(7), 2);
        int[] anewPitch = {7, 0, 0, NONE};
        for (int what = 0; what < 4; what++) {
            due("ofPitch(2, " + what + ") anew", x.ofPitch(2, what), anewPitch[what]);
        }
    }

    private static void wish() {
        CartPitches x = row(3);
        x.cart(0, 1);
        due("wish(0, 0, 1, 2)", x.wish(0, 0, 1, 2), 3);
        due("first wish", x.ofCart(0, 3), 0);
        due("third wish", x.ofCart(0, 5), 2);
        due("wish(0, 2, 1, NONE)", x.wish(0, 2, 1, NONE), 2);
        due("third wish", x.ofCart(0, 5), NONE);
        due("wish(0, 1, NONE, 2)", x.wish(0, 1, NONE, 2), 1);
        due("wish(0, 1, NONE, 1)", x.wish(0, 1, NONE, 1), 1);
        due("second wish", x.ofCart(0, 4), NONE);
        due("third wish", x.ofCart(0, 5), NONE);
        due("wish(0, NONE, 1, 1)", x.wish(0, NONE, 1, 1), 0);
        due("wishes", x.ofCart(0, 2), 0);
        due("first wish", x.ofCart(0, 3), NONE);
        due("wish(1, 0, 1, 2)", x.wish(1, 0, 1, 2), NO_SUCH);
        due("wish(-1, 9, 9, 9)", x.wish(-1, 9, 9, 9), NO_SUCH);
        due("wish(0, 3, 1, 2)", x.wish(0, 3, 1, 2), BAD_VALUE);
        due("wish(0, -1, 1, 2)", x.wish(0, -1, 1, 2), BAD_VALUE);
        due("wish(0, NONE, 3, NONE)", x.wish(0, NONE, 3, NONE), BAD_VALUE);
        due("wish(0, NONE, NONE, -5)", x.wish(0, NONE, NONE, -5), BAD_VALUE);
        due("wish(0, 1, NONE, 3)", x.wish(0, 1, NONE, 3), BAD_VALUE);
        due("wish(0, 1, 1, 2)", x.wish(0, 1, 1, 2), BAD_VALUE);
        due("wish(0, 1, 1, NONE)", x.wish(0, 1, 1, NONE), BAD_VALUE);
        due("wish(0, 1, 2, 1)", x.wish(0, 1, 2, 1), BAD_VALUE);
        due("wish(0, 2, 1, 1)", x.wish(0, 2, 1, 1), BAD_VALUE);
        due("wishes unchanged", x.ofCart(0, 2), 0);
    }

    private static void fine() {
        CartPitches x = new CartPitches();
        x.cart(0, 1);
        x.cart(0, 1);
        due("fine(0, 0)", x.fine(0, 0), BAD_VALUE);
        due("fine(0, 10)", x.fine(0, 10), BAD_VALUE);
        due("fine(2, 1)", x.fine(2, 1), NO_SUCH);
        due("fine(2, 0)", x.fine(2, 0), NO_SUCH);
        due("fine(0, 9)", x.fine(0, 9), 9);
        due("fine(0, 2)", x.fine(0, 2), 11);
        due("not banned at LIMIT - 1", x.ofCart(0, 10), NONE);
        due("fines", x.money(0, 3), 5500);
        due("fine(0, 1)", x.fine(0, 1), 0);
        due("banned at LIMIT", x.ofCart(0, 10), 14);
        due("points gone", x.ofCart(0, 9), 0);
        due("fines stay", x.money(0, 3), 6000);
        due("fine(0, 3), banned", x.fine(0, 3), 3);
        due("banned up to the same day", x.ofCart(0, 10), 14);
        // The points of the day before count, those of LAPSE days ago do not.
        x.set(5, 2);
        x.days(1);
        due("fine(0, 2)", x.fine(0, 2), 5);
        x.days(1);
        due("fine(0, 1)", x.fine(0, 1), 3);
        x.set(5, 200);
        due("LAPSE as it is now", x.ofCart(0, 9), 6);
        // LIMIT is looked at only when points are given.
        x.set(3, 3);
        due("points above LIMIT", x.ofCart(0, 9), 6);
        x.set(6, 0);
        x.set(4, 1);
        due("fine(0, 1)", x.fine(0, 1), 0);
        due("banned up to today + BAN", x.ofCart(0, 10), 3);
        due("fines of 0", x.money(0, 3), 9000);
        due("the other cart", x.ofCart(1, 9), 0);
    }

    private static void pointsLastLong() {
        CartPitches x = new CartPitches();
        x.set(5, 200);
        x.set(3, 30);
        x.cart(0, 1);
        x.fine(0, 5);
        for (int i = 0; i < 3; i++) {
            x.days(60);
        }
        x.days(19);
        due("points of 199 days ago", x.ofCart(0, 9), 5);
        x.fine(0, 3);
        due("both", x.ofCart(0, 9), 8);
        x.days(1);
        due("points of 200 days ago", x.ofCart(0, 9), 3);
        x.fine(0, 4);
        due("the day on the old one's spot", x.ofCart(0, 9), 7);
        x.set(5, 1);
        due("LAPSE of 1", x.ofCart(0, 9), 4);
        x.days(1);
        due("LAPSE of 1, a day later", x.ofCart(0, 9), 0);
        x.set(5, 3);
        due("LAPSE of 3", x.ofCart(0, 9), 7);
    }

    private static void check() {
        CartPitches x = new CartPitches();
        for (int i = 0; i < 3; i++) {
            x.cart(0, 1);
        }
        due("check(3)", x.check(3), NO_SUCH);
        due("check(-1)", x.check(-1), NO_SUCH);
        due("check(2)", x.check(2), 1);
        due("check(0)", x.check(0), 2);
        due("check(2) again", x.check(2), NOT_POSSIBLE);
        due("waiting", x.count(4), 2);
        due("waits", x.ofCart(2, 8), 1);
        due("waits not", x.ofCart(1, 8), 0);
        due("not checked yet", x.ofCart(2, 7), 60);
        x.days(1);
        due("waits no more", x.ofCart(2, 8), 0);
        due("none waits", x.count(4), 0);
        due("check(2)", x.check(2), 1);
    }

    private static void swap() {
        CartPitches x = row(1);
        cart(x, 0);
        cart(x, 0);
        due("swap(0, 0)", x.swap(0, 0), NO_SUCH);
        due("swap(0, 2)", x.swap(0, 2), NO_SUCH);
        due("swap(2, 0)", x.swap(2, 0), NO_SUCH);
        due("swap(-1, 0)", x.swap(-1, 0), NO_SUCH);
        for (int i = 1; i <= 8; i++) {
            due("swap", x.swap(i % 2, 1 - i % 2), i);
        }
        due("swap(0, 1)", x.swap(0, 1), TOO_MANY);
        due("swap(1, 1)", x.swap(1, 1), NO_SUCH);
        due("asked for", x.count(5), 8);
        x.days(1);
        due("gone", x.count(5), 0);
        due("none done", x.count(19), 0);
        due("none paid", x.money(0, 4), 0);
    }

    private static void pay() {
        CartPitches x = row(0);
        x.cart(0, 1);
        due("pay(0, 0)", x.pay(0, 0), BAD_VALUE);
        due("pay(0, 1000001)", x.pay(0, 1000001), BAD_VALUE);
        due("pay(1, 1)", x.pay(1, 1), NO_SUCH);
        due("pay(1, 0)", x.pay(1, 0), NO_SUCH);
        x.fine(0, 2);
        due("pay(0, 999)", x.pay(0, 999), 0);
        due("a balance of -1", x.money(0, 0), -1);
        due("pay(0, 1)", x.pay(0, 1), 1);
        due("a balance of 0", x.money(0, 0), 0);
        due("pay(0, 1000000)", x.pay(0, 1000000), 1);
        due("paid in", x.money(0, 1), 1001000);
        for (int i = 0; i < 300; i++) {
            x.pay(0, 1000000);
        }
        due("paid in", x.money(0, 1), 301001000);
    }

    /** Two carts and one pitch: x goes 149, 11249, 57305, 38044, 35283, .. */
    private static void lots() {
        CartPitches x = row(1);
        cart(x, 0, 0);
        cart(x, 1, 0);
        due("days(0)", x.days(0), BAD_VALUE);
        due("days(61)", x.days(61), BAD_VALUE);
        due("days(1)", x.days(1), 1);
        due("x", x.count(3), 11249);
        due("149 % 2 is the second one's", x.ofCart(1, 15), 0);
        due("place of the first one", x.ofCart(0, 15), 1);
        due("losses", x.ofCart(0, 6), 1);
        due("reason", x.ofCart(0, 14), 4);
        due("reason of who had it", x.ofCart(1, 14), 0);
        due("days(1)", x.days(1), 2);
        // 2 tickets and 1: 57305 % 3 = 2
        due("57305 % 3 is the second one's", x.ofCart(1, 12), 0);
        due("losses", x.ofCart(0, 6), 2);
        x.save(0);
        x.days(1);
        // 3 tickets and 1: 35283 % 4 = 3
        due("35283 % 4 is the second one's", x.ofCart(1, 12), 0);
        due("losses", x.ofCart(0, 6), 3);
        x.restore(0);
        x.set(0, 2);
        x.days(1);
        // 2 tickets at most: 35283 % 3 = 0
        due("35283 % 3 is the first one's", x.ofCart(0, 12), 0);
        due("losses are 0 again", x.ofCart(0, 6), 0);
        due("losses of the other", x.ofCart(1, 6), 1);
        x.restore(0);
        x.set(0, 3);
        x.days(1);
        due("3 tickets are not above 3", x.ofCart(1, 12), 0);
        due("days(60)", x.days(60), 63);
        due("days with a pitch, of both, up to the day 60", x.ofCart(0, 11) + x.ofCart(1, 11), 61);
    }

    private static void wishesInLots() {
        // 149 % 3 = 2, 11249 % 2 = 1: drawn are 2, 1, 0.
        CartPitches x = row(4);
        cart(x, 0, 1, 2, 3);
        cart(x, 1, 1, 2);
        cart(x, 0, 1);
        due("days(1)", x.days(1), 1);
        due("first wish", x.ofCart(2, 12), 1);
        due("second wish, beside another kind", x.ofCart(1, 12), 2);
        due("third wish", x.ofCart(0, 12), 3);
        due("x", x.count(3), 57305);
        // The first cart's kind is beside pitches 0 and 2 of the third one's: nothing is left for it.
        CartPitches y = row(3);
        cart(y, 0, 0, 2, 1);
        cart(y, 1);
        cart(y, 0, 1);
        y.seed(0);
        y.days(1);
        // 74 % 2 = 0: the first is drawn first, and gets 0; then 1 is beside its kind.
        due("drawn first", y.ofCart(0, 15), 0);
        due("first wish", y.ofCart(0, 12), 0);
        due("beside its kind", y.ofCart(2, 14), 4);
        due("without wishes", y.ofCart(1, 14), 1);
        due("not drawn", y.ofCart(1, 15), NONE);
        due("no losses without wishes", y.ofCart(1, 6), 0);
        y.seed(1);
        y.days(1);
        // 1 ticket and 2: 149 % 3 = 2: the third is drawn first.
        due("drawn first", y.ofCart(2, 15), 0);
        due("between its kind", y.ofCart(0, 14), 4);
        due("losses", y.ofCart(0, 6), 1);
        due("losses are 0", y.ofCart(2, 6), 0);
    }

    private static void whoTakesPart() {
        CartPitches x = row(2);
        x.set(1, 2);
        x.set(4, 1);
        x.set(3, 3);
        cart(x, 0, 0);
        cart(x, 1, 1);
        x.fine(1, 3);
        x.days(1);
        due("banned today", x.ofCart(1, 14), 3);
        due("no losses", x.ofCart(1, 6), 0);
        x.days(1);
        due("banned up to that day", x.ofCart(1, 14), 3);
        x.days(1);
        due("banned no more", x.ofCart(1, 14), 0);
        due("check valid on its last day", x.ofCart(0, 14), 0);
        x.days(1);
        due("check not valid", x.ofCart(0, 14), 2);
        due("not drawn", x.ofCart(0, 15), NONE);
        due("no pitch", x.ofCart(0, 12), NONE);
        due("nobody had it", x.ofPitch(0, 3), NONE);
        due("none had a pitch", x.count(18), 0);
        x.fine(0, 3);
        x.days(1);
        due("check goes before ban", x.ofCart(0, 14), 2);
        x.wish(0, NONE, NONE, NONE);
        due("the reason is of the day that passed", x.ofCart(0, 14), 2);
        x.days(1);
        due("wishes go before check", x.ofCart(0, 14), 1);
        x.cart(2, 1);
        due("no day passed since", x.ofCart(2, 14), 0);
        due("no pitch", x.ofCart(2, 12), NONE);
    }

    private static void checksOfADay() {
        CartPitches x = row(1);
        x.set(1, 10);
        x.cart(0, 1);
        x.set(1, 5);
        x.cart(0, 1);
        x.cart(0, 1);
        x.cart(0, 1);
        for (int i = 0; i < 4; i++) {
            x.check(i);
        }
        x.set(1, 100);
        x.days(1);
        due("earliest", x.ofCart(1, 7), 100);
        due("earliest", x.ofCart(2, 7), 100);
        due("highest number", x.ofCart(3, 8), 1);
        due("latest", x.ofCart(0, 8), 1);
        x.check(1);
        x.set(2, 1);
        x.days(1);
        due("earliest", x.ofCart(3, 7), 101);
        due("latest", x.ofCart(0, 7), 10);
        x.set(1, 1);
        x.days(1);
        due("a check can end earlier", x.ofCart(0, 7), 3);
        due("the other waits", x.count(4), 1);
        // Checked in the morning, valid in the lots of the same day.
        CartPitches y = row(1);
        y.set(1, 1);
        cart(y, 0, 0);
        y.days(2);
        y.check(0);
        due("day of the check", y.wouldHave(0), 0);
        y.days(3);
        due("valid up to", y.ofCart(0, 7), 3);
        due("days", y.ofCart(0, 11), 4);
    }

    /** 149 % 4 = 1, 11249 % 3 = 2, 57305 % 2 = 1: drawn are 1, 3, 2, 0. */
    private static CartPitches kitchenRow(int open, int absent) {
        CartPitches x = row(4);
        x.set(8, open);
        x.set(7, absent);
        int[] hours = {3, 4, 2, 3};
        for (int i = 0; i < 4; i++) {
            x.cart(i, hours[i]);
            x.wish(i, i, NONE, NONE);
        }
        return x;
    }

    private static void kitchens() {
        CartPitches x = kitchenRow(6, 2);
        x.days(1);
        due("first", x.ofCart(1, 13), 0);
        due("second, in the other kitchen", x.ofCart(3, 13), 0);
        due("third, behind the shorter", x.ofCart(2, 13), 3);
        due("fourth finds none", x.ofCart(0, 13), NONE);
        due("loses the pitch", x.ofCart(0, 12), NONE);
        due("reason", x.ofCart(0, 14), 5);
        due("points", x.ofCart(0, 9), 2);
        due("fines", x.money(0, 3), 1000);
        due("no rent", x.money(0, 2), 0);
        due("losses", x.ofCart(0, 6), 1);
        due("place", x.ofCart(0, 15), 3);
        due("nobody had it", x.ofPitch(0, 3), NONE);
        due("had pitches", x.count(18), 3);
        x = kitchenRow(7, 2);
        x.days(1);
        due("the last hour ends at OPEN", x.ofCart(0, 13), 4);
        due("has the pitch", x.ofCart(0, 12), 0);
        x = kitchenRow(6, 0);
        x.days(1);
        due("no points", x.ofCart(0, 9), 0);
        due("no fines", x.money(0, 3), 0);
        x = kitchenRow(6, 3);
        x.set(3, 3);
        x.days(1);
        due("banned by ABSENT", x.ofCart(0, 10), 14);
        due("not banned when the lots were drawn", x.ofCart(0, 14), 5);
        x.days(1);
        due("banned", x.ofCart(0, 14), 3);
        // With ABSENT 0 no points are given, so nobody is banned for those that he has.
        x = kitchenRow(6, 0);
        x.fine(0, 5);
        x.set(3, 3);
        x.days(1);
        due("not banned", x.ofCart(0, 10), NONE);
        due("points", x.ofCart(0, 9), 5);
        // A lost pitch still barred those who were drawn behind.
        x = row(1);
        x.set(8, 6);
        x.set(0, 1);
        int[] hours = {6, 6, 6};
        for (int i = 0; i < 3; i++) {
            x.cart(i, hours[i]);
        }
        x.pitch(1);
        x.pitch(2);
        x.wish(2, 0, NONE, NONE);
        x.wish(1, 1, NONE, NONE);
        x.wish(0, 2, NONE, NONE);
        x.cart(0, 1);
        x.wish(3, 2, NONE, NONE);
        // 149 % 4 = 1, 11249 % 3 = 2, 57305 % 2 = 1, of {0, 2, 3} then {0, 2}: drawn are 1, 3, 2, 0.
        x.days(1);
        due("fourth", x.ofCart(0, 14), 4);
        due("third", x.ofCart(2, 14), 5);
    }

    private static void swaps() {
        CartPitches x = row(4);
        cart(x, 0, 0);
        cart(x, 1, 1);
        cart(x, 0, 2);
        cart(x, 2);
        x.swap(0, 1);
        due("beside its kind behind the exchange", x.wouldHave(0), 0);
        x.swap(0, 2);
        x.swap(2, 3);
        x.days(1);
        due("first", x.ofCart(0, 12), 2);
        due("second", x.ofCart(1, 12), 1);
        due("third", x.ofCart(2, 12), 0);
        due("done", x.count(19), 1);
        due("paid", x.money(0, 4), 200);
        due("paid", x.money(2, 4), 200);
        due("not paid", x.money(1, 4), 0);
        due("not paid", x.money(3, 4), 0);
        due("the rent of the pitch that it has", x.money(0, 2), 300);
        due("the rent of the pitch that it has", x.money(2, 2), 100);
        due("holder", x.ofPitch(0, 3), 2);
        due("holder", x.ofPitch(2, 3), 0);
        due("day of the pitch", x.ofPitch(0, 1), 1);
        x.days(1);
        due("gone the next day", x.ofCart(0, 12), 0);
        due("balance", x.money(0, 0), -300 - 100 - 200);
        // In the order in which they were asked for: what the first swap makes possible is possible for the second.
        CartPitches y = row(4);
        cart(y, 0, 0);
        cart(y, 1, 1);
        cart(y, 0, 2);
        cart(y, 2, 3);
        y.set(9, 0);
        y.swap(2, 3);
        y.swap(0, 1);
        y.days(1);
        due("done", y.count(19), 2);
        due("order of the first", y.ofPitch(0, 3), 1);
        due("order of the second", y.ofPitch(1, 3), 0);
        due("order of the third", y.ofPitch(2, 3), 3);
        due("order of the fourth", y.ofPitch(3, 3), 2);
        due("SWAP of 0", y.money(0, 4), 0);
        y.swap(0, 1);
        y.swap(2, 3);
        y.days(1);
        due("only one more", y.count(19), 3);
        due("the other order", y.ofPitch(0, 3), 0);
        // The second one's kind bars as well, on the right side and on the left.
        CartPitches z = row(4);
        cart(z, 1, 1);
        cart(z, 0, 3);
        cart(z, 0, 0);
        z.swap(1, 0);
        z.days(1);
        due("barred on the left", z.count(19), 0);
        z.swap(0, 1);
        z.days(1);
        due("barred, asked the other way", z.count(19), 0);
        z.swap(0, 2);
        z.days(1);
        due("not barred", z.count(19), 1);
        due("holder", z.ofPitch(0, 3), 0);
    }

    private static void ofCart() {
        CartPitches x = row(3);
        x.cart(4, 5);
        x.wish(0, 2, 0, NONE);
        x.fine(0, 3);
        x.days(2);
        x.check(0);
        int[] all = {4, 5, 2, 2, 0, NONE, 0, 60, 1, 3, NONE, 2, 2, 0, 0, 0};
        for (int what = 0; what < 16; what++) {
            due("ofCart(0, " + what + ")", x.ofCart(0, what), all[what]);
        }
        due("ofCart(0, 16)", x.ofCart(0, 16), BAD_VALUE);
        due("ofCart(0, -1)", x.ofCart(0, -1), BAD_VALUE);
        due("ofCart(1, 0)", x.ofCart(1, 0), NO_SUCH);
        due("ofCart(-1, 16)", x.ofCart(-1, 16), NO_SUCH);
        due("ofCart(least, least)", x.ofCart(LEAST_INT, LEAST_INT), NO_SUCH);
        due("ofCart(0, most)", x.ofCart(0, MOST_INT), BAD_VALUE);
    }

    private static void money() {
        CartPitches x = row(1);
        cart(x, 0, 0);
        x.fine(0, 1);
        x.pay(0, 7000);
        x.days(3);
        long[] all = {7000 - 300 - 500, 7000, 300, 500, 0};
        for (int what = 0; what < 5; what++) {
            due("money(0, " + what + ")", x.money(0, what), all[what]);
        }
        due("money(0, 5)", x.money(0, 5), BAD_VALUE);
        due("money(0, -1)", x.money(0, -1), BAD_VALUE);
        due("money(1, 0)", x.money(1, 0), NO_SUCH);
        due("money(1, 5)", x.money(1, 5), NO_SUCH);
        // More than an int holds: 9 points at 10000 a day for a cart that finds no kitchen.
        CartPitches y = row(3);
        y.set(6, 10000);
        y.set(7, 9);
        y.set(8, 6);
        y.set(5, 1);
        y.set(3, 30);
        y.set(1, 200);
        for (int i = 0; i < 3; i++) {
            y.cart(i, 6);
            y.wish(i, i, NONE, NONE);
        }
        for (int i = 0; i < 500; i++) {
            y.days(60);
            for (int c = 0; c < 3; c++) {
                y.check(c);
            }
        }
        due("fines", y.money(0, 3) + y.money(1, 3) + y.money(2, 3), 30000L * 90000L);
        due("balance", y.money(0, 0), -y.money(0, 2) - y.money(0, 3));
    }

    private static void ofPitch() {
        CartPitches x = row(2);
        cart(x, 0, 1);
        x.days(4);
        int[] all = {200, 4, 800, 0};
        for (int what = 0; what < 4; what++) {
            due("ofPitch(1, " + what + ")", x.ofPitch(1, what), all[what]);
        }
        due("days of the other", x.ofPitch(0, 1), 0);
        due("holder of the other", x.ofPitch(0, 3), NONE);
        x.pitch(5);
        due("holder of the new one", x.ofPitch(2, 3), NONE);
        due("ofPitch(0, 4)", x.ofPitch(0, 4), BAD_VALUE);
        due("ofPitch(0, -1)", x.ofPitch(0, -1), BAD_VALUE);
        due("ofPitch(3, 0)", x.ofPitch(3, 0), NO_SUCH);
        due("ofPitch(3, 4)", x.ofPitch(3, 4), NO_SUCH);
        due("ofPitch(-1, 0)", x.ofPitch(-1, 0), NO_SUCH);
    }

    private static void count() {
        CartPitches x = row(3);
        cart(x, 0, 0);
        cart(x, 1, 1);
        x.swap(0, 1);
        x.days(5);
        x.check(0);
        x.swap(0, 1);
        x.swap(1, 0);
        put(x, "c");
        int[] all = {5, 2, 3, -1, 1, 2, 1, 6, 8, 60, 2, 12, 14, 90, 500, 2, 11, 200, 2, 1};
        for (int what = 0; what < 20; what++) {
            if (what != 3) {
                due("count(" + what + ")", x.count(what), all[what]);
            }
        }
        due("count(-1)", x.count(-1), BAD_VALUE);
        due("count(20)", x.count(20), BAD_VALUE);
    }

    private static void pointsOn() {
        CartPitches x = new CartPitches();
        x.set(5, 10);
        x.cart(0, 1);
        x.days(7);
        x.fine(0, 2);
        x.days(2);
        x.fine(0, 4);
        due("pointsOn(0, 9)", x.pointsOn(0, 9), 6);
        due("pointsOn(0, 16)", x.pointsOn(0, 16), 6);
        due("pointsOn(0, 17)", x.pointsOn(0, 17), 4);
        due("pointsOn(0, 18)", x.pointsOn(0, 18), 4);
        due("pointsOn(0, 19)", x.pointsOn(0, 19), 0);
        due("pointsOn(0, 409)", x.pointsOn(0, 409), 0);
        due("pointsOn(0, 410)", x.pointsOn(0, 410), BAD_VALUE);
        due("pointsOn(0, 8)", x.pointsOn(0, 8), BAD_VALUE);
        due("pointsOn(0, least)", x.pointsOn(0, LEAST_INT), BAD_VALUE);
        due("pointsOn(0, most)", x.pointsOn(0, MOST_INT), BAD_VALUE);
        due("pointsOn(1, 9)", x.pointsOn(1, 9), NO_SUCH);
        due("pointsOn(1, 8)", x.pointsOn(1, 8), NO_SUCH);
        x.set(5, 200);
        due("pointsOn(0, 206)", x.pointsOn(0, 206), 6);
        due("pointsOn(0, 207)", x.pointsOn(0, 207), 4);
        due("pointsOn(0, 209)", x.pointsOn(0, 209), 0);
    }

    private static void wouldHave() {
        CartPitches x = row(2);
        cart(x, 0, 1);
        cart(x, 1, 1, 0);
        x.check(0);
        x.swap(0, 1);
        int[] before = {x.count(0), x.count(3), x.count(4), x.count(5), x.ofCart(0, 6), x.ofCart(0, 12)};
        // 149 % 2 = 1: the second gets 1, the first gets none; no swap.
        due("wouldHave(0)", x.wouldHave(0), NONE);
        due("wouldHave(1)", x.wouldHave(1), 1);
        due("wouldHave(2)", x.wouldHave(2), NO_SUCH);
        due("wouldHave(-1)", x.wouldHave(-1), NO_SUCH);
        x.wish(0, 0, NONE, NONE);
        due("by the swap", x.wouldHave(0), 1);
        due("by the swap", x.wouldHave(1), 0);
        x.undo();
        int[] after = {x.count(0), x.count(3), x.count(4), x.count(5), x.ofCart(0, 6), x.ofCart(0, 12)};
        for (int i = 0; i < before.length; i++) {
            due("unchanged " + i, after[i], before[i]);
        }
        CartPitches y = kitchenRow(6, 2);
        due("lost for want of a kitchen", y.wouldHave(0), NONE);
        due("no points", y.ofCart(0, 9), 0);
    }

    private static void ifWished() {
        CartPitches x = row(3);
        cart(x, 0, 0);
        cart(x, 1);
        cart(x, 0, 0, 1, 2);
        due("ifWished(1, 1)", x.ifWished(1, 1), 1);
        due("no wishes still", x.ofCart(1, 2), 0);
        // 149 % 3 = 2: the third is drawn first, 11249 % 2 = 1: then the second, then the first.
        due("taken", x.ifWished(1, 0), NONE);
        due("just one wish", x.ifWished(2, 2), 2);
        due("wishes as they were", x.ofCart(2, 3), 0);
        due("beside its kind", x.ifWished(0, 1), NONE);
        due("ifWished(0, 2)", x.ifWished(0, 2), 2);
        x.swap(0, 2);
        due("another one by a swap", x.ifWished(0, 2), 0);
        due("ifWished(3, 0)", x.ifWished(3, 0), NO_SUCH);
        due("ifWished(0, 3)", x.ifWished(0, 3), NO_SUCH);
        due("ifWished(0, NONE)", x.ifWished(0, NONE), NO_SUCH);
        due("ifWished(-1, 0)", x.ifWished(-1, 0), NO_SUCH);
    }

    private static void firstDay() {
        CartPitches x = row(2);
        x.set(3, 3);
        cart(x, 0, 0);
        cart(x, 1, 1);
        due("today", x.firstDay(0), 0);
        x.set(4, 5);
        x.fine(0, 3);
        due("behind a ban up to 5", x.firstDay(0), 6);
        x.set(4, 59);
        x.fine(1, 3);
        due("banned up to 59", x.firstDay(1), NONE);
        x.set(4, 58);
        x.fine(1, 3);
        due("banned up to 58", x.firstDay(1), 59);
        due("firstDay(2)", x.firstDay(2), NO_SUCH);
        due("firstDay(-1)", x.firstDay(-1), NO_SUCH);
        due("today is unchanged", x.count(0), 0);
        x.days(2);
        due("two days nearer", x.firstDay(0), 4);
        // A check that comes late.
        CartPitches y = row(1);
        y.set(1, 1);
        y.set(2, 1);
        cart(y, 0);
        cart(y, 0, 0);
        y.days(2);
        y.check(0);
        y.check(1);
        due("checked tomorrow", y.firstDay(1), 1);
        due("days of it", y.daysOf(1, 60), 2);
        due("no wishes", y.firstDay(0), NONE);
    }

    private static void daysOf() {
        CartPitches x = row(1);
        cart(x, 0, 0);
        cart(x, 1, 0);
        // Who had it on the days 0, 1 and 2: the second one, see lots().
        due("daysOf(0, 3)", x.daysOf(0, 3), 0);
        due("daysOf(1, 3)", x.daysOf(1, 3), 3);
        due("daysOf(1, 1)", x.daysOf(1, 1), 1);
        due("daysOf(0, 1)", x.daysOf(0, 1), 0);
        due("together", x.daysOf(0, 60) + x.daysOf(1, 60), 60);
        due("daysOf(0, 0)", x.daysOf(0, 0), BAD_VALUE);
        due("daysOf(0, 61)", x.daysOf(0, 61), BAD_VALUE);
        due("daysOf(2, 1)", x.daysOf(2, 1), NO_SUCH);
        due("daysOf(2, 0)", x.daysOf(2, 0), NO_SUCH);
        int first = x.daysOf(0, 60);
        x.days(60);
        due("as it came", x.ofCart(0, 11), first);
        x.days(1);
        due("the checks lapsed", x.daysOf(0, 60) + x.daysOf(1, 60), 0);
    }

    private static void luckySeed() {
        CartPitches x = row(3);
        cart(x, 0, 0);
        cart(x, 1, 0, 1);
        // Seed 0: 74 % 2 = 0: the first is drawn first. Seed 1: 149 % 2 = 1: the second is.
        due("luckySeed(0, NONE)", x.luckySeed(0, NONE), 0);
        due("luckySeed(0, 0)", x.luckySeed(0, 0), 0);
        due("luckySeed(1, 0)", x.luckySeed(1, 0), 1);
        due("luckySeed(1, 1)", x.luckySeed(1, 1), 0);
        due("luckySeed(1, NONE)", x.luckySeed(1, NONE), 0);
        due("luckySeed(1, 2)", x.luckySeed(1, 2), NONE);
        due("the seed stays", x.count(3), 1);
        due("luckySeed(2, 0)", x.luckySeed(2, 0), NO_SUCH);
        due("luckySeed(0, 3)", x.luckySeed(0, 3), NO_SUCH);
        due("luckySeed(0, -1)", x.luckySeed(0, -1), NO_SUCH);
        due("luckySeed(-1, NONE)", x.luckySeed(-1, NONE), NO_SUCH);
        x.wish(0, NONE, NONE, NONE);
        due("no wishes", x.luckySeed(0, NONE), NONE);
        x.undo();
        x.wish(1, 2, NONE, NONE);
        x.swap(0, 1);
        due("by the swap", x.luckySeed(0, 2), 0);
        // With 9 carts, the last one is drawn first when (75 * seed + 74) % 9 = 8: 74 % 9 = 2, 149 % 9 = 5, 224 % 9 = 8.
        CartPitches y = row(1);
        for (int i = 0; i < 9; i++) {
            cart(y, 0, 0);
        }
        due("the ninth", y.luckySeed(8, 0), 2);
        due("the third", y.luckySeed(2, 0), 0);
        due("the first, not among 0 to 199", y.luckySeed(0, 0), NONE);
        luckySeedAtTheEnd();
    }

    /**
     * Carts that all wish the one pitch, so that who is drawn first has it: one of them has had it for so many days that the
     * others have so many tickets. The answer is the least seed for which 75 * seed + 74, left over by all tickets, is its own.
     */
    private static int leastSeed(int carts, int tickets, int lucky) {
        CartPitches x = row(1);
        x.set(0, 20);
        for (int i = 0; i < carts; i++) {
            cart(x, i % 6, 0);
        }
        for (int each = 1; each < tickets; each++) {
            int seed = 0;
            while ((75 * seed + 74) % 65537 % ((carts - 1) * each + 1) != lucky * each) {
                seed++;
            }
            x.seed(seed);
            x.days(1);
        }
        due("losses of the lucky one", x.ofCart(lucky, 6), 0);
        due("losses of the others", x.ofCart(lucky + 1, 6), tickets - 1);
        return x.luckySeed(lucky, 0);
    }

    private static void luckySeedAtTheEnd() {
        // (75 * 199 + 74) % (13 * 16 + 1) = 160 = 10 * 16
        due("the last seed", leastSeed(14, 16, 10), 199);
        // (75 * 200 + 74) % (14 * 17 + 1) = 17 = 1 * 17
        due("the seed behind it", leastSeed(15, 17, 1), NONE);
    }

    private static void whyNot() {
        CartPitches x = row(5);
        cart(x, 0, 1);
        cart(x, 0, 3);
        cart(x, 1);
        due("before any day", x.whyNot(2, 1), 0);
        x.days(1);
        due("its own", x.whyNot(0, 1), 0);
        due("another's", x.whyNot(1, 1), 1);
        due("another's, of another kind", x.whyNot(2, 1), 1);
        due("beside itself", x.whyNot(0, 0), 0);
        due("beside its kind, on the right", x.whyNot(1, 0), 2);
        due("beside its kind, on the left", x.whyNot(0, 4), 2);
        due("beside both", x.whyNot(0, 2), 2);
        due("another kind", x.whyNot(2, 2), 0);
        x.cart(0, 1);
        due("a new cart", x.whyNot(3, 2), 2);
        x.wish(0, 4, NONE, NONE);
        due("as it was then", x.whyNot(2, 1), 1);
        due("whyNot(4, 0)", x.whyNot(4, 0), NO_SUCH);
        due("whyNot(0, 5)", x.whyNot(0, 5), NO_SUCH);
        due("whyNot(0, NONE)", x.whyNot(0, NONE), NO_SUCH);
        due("whyNot(-1, 0)", x.whyNot(-1, 0), NO_SUCH);
        // Who lost the pitch for want of a kitchen did not have it.
        CartPitches y = kitchenRow(6, 2);
        y.days(1);
        due("nobody's at the end", y.whyNot(1, 0), 0);
    }

    private static void put() {
        CartPitches x = new CartPitches();
        due("put(0)", x.put(0), BAD_VALUE);
        due("put of 32", x.put(32), BAD_VALUE);
        due("put of 127", x.put(127), BAD_VALUE);
        due("put of 33", x.put(33), 1);
        due("put of 126", x.put(126), 2);
        due("put of 128", x.put(128), BAD_VALUE);
        due("put of 255", x.put(255), BAD_VALUE);
        due("put(-1)", x.put(-1), BAD_VALUE);
        due("put(least)", x.put(Long.MIN_VALUE), BAD_VALUE);
        due("nothing last", x.put('c' << 8), BAD_VALUE);
        due("a gap", x.put((long) 'c' << 16 | 'A'), BAD_VALUE);
        due("a bit at the top", x.put(1L << 63 | 'A'), BAD_VALUE);
        due("a bit above", x.put(1L << 56 | 'A'), BAD_VALUE);
        due("a bad one in the middle", x.put((long) 'c' << 16 | 32 << 8 | 'A'), BAD_VALUE);
        due("a bad first one", x.put(200L << 56 | 0x41414141414141L), BAD_VALUE);
        due("8 good ones", x.put(0x4141414141414141L), 10);
        due("no change", x.count(7), 0);
        x.wipe();
        // The order of the characters: "cA" is read, "Ac" is not.
        x.put('A');
        x.put('c');
        due("A, then c", x.fault(), 0);
        x.wipe();
        due("cA", x.put('c' << 8 | 'A'), 2);
        due("read from left to right", x.fault(), NONE);
        x.wipe();
        for (int i = 1; i <= 9; i++) {
            due("put", x.put(0x4141414141414141L), 8 * i);
        }
        due("7 more", x.put(0x41414141414141L), 79);
        due("2 more", x.put(0x4141), TOO_MANY);
        due("2 bad ones more", x.put(0x4120), BAD_VALUE);
        due("1 more", x.put(0x41), 80);
        due("1 more", x.put(0x41), TOO_MANY);
        due("the pad", x.count(6), 80);
    }

    private static void wipe() {
        CartPitches x = new CartPitches();
        due("wipe() of none", x.wipe(), 0);
        put(x, "cA;d12;fB");
        due("wipe()", x.wipe(), 9);
        due("empty", x.count(6), 0);
        due("no change", x.count(7), 0);
        due("fault()", x.fault(), 0);
    }

    private static void fault() {
        Object[][] texts = {
            {"", 0}, {"w", 1}, {"wA", NONE}, {"wP0", NONE}, {"wQ", 1}, {"wA0123", 5}, {"wA012", NONE}, {"wA00", NONE}, {"w0", 1},
            {"wa", 1}, {"wAA", 2}, {"wA01;", 5}, {"wA01;;", 5}, {";", 0}, {"f", 1}, {"fA", 2}, {"fA0", 2}, {"fA1", NONE}, {"fA9", NONE},
            {"fA11", 3}, {"fA;", 2}, {"f1", 1}, {"c", 1}, {"cA", NONE}, {"cA1", 2}, {"c@", 1}, {"s", 1}, {"sA", 2}, {"sAA", NONE},
            {"sAB1", 3}, {"sA;", 2}, {"sABC", 3}, {"d", 1}, {"d0", NONE}, {"d00", 2}, {"d01", 2}, {"d9", NONE}, {"d99", NONE}, {"d100", 3},
            {"d:", 1}, {"d1:", 2}, {"d/", 1}, {"d1A", 2}, {"dA", 1}, {"d;", 1}, {"x", 0}, {"W", 0}, {"A", 0}, {"0", 0}, {"!", 0}, {"~", 0},
            {"wA0;fB1;cC;sDE;d10;wF;wG01;wH012;d0;d60;fI9;cJ;sKL;wM9;cN;sOP;fP1", NONE},
            {"cA;cA;cA;cA;cA;cA;cA;cA;cA;cA;cA;cA;cA;cA;cA;cA;cA;cA;cA;cA;cA;cA;cA;cA;cA;cA;cA", NONE},
            {"cA;cA;cA;cA;cA;cA;cA;cA;cA;cA;cA;cA;cA;cA;cA;cA;cA;cA;cA;cA;cA;cA;cA;cA;cA;d1;sA", 80},
        };
        for (Object[] row : texts) {
            CartPitches x = new CartPitches();
            String text = (String) row[0];
            int want = (Integer) row[1];
            put(x, text);
            due("fault() of " + text, x.fault(), want);
            due("length of " + text, x.count(6), text.length());
            due("no change", x.count(7), 0);
        }
    }

    private static void carryOut() {
        CartPitches x = row(3);
        for (int i = 0; i < 3; i++) {
            x.cart(i, 1);
        }
        due("carryOut() of none", x.carryOut(), BAD_TEXT);
        put(x, "wA210;wB;wB1;cA;cC;sAB;fB2;d2;fC9;wC2");
        int changes = x.count(7);
        due("carryOut()", x.carryOut(), 10);
        due("pad", x.count(6), 0);
        due("one change", x.count(7), Math.min(6, changes + 1));
        due("first wish", x.ofCart(0, 3), 2);
        due("second wish", x.ofCart(0, 4), 1);
        due("third wish", x.ofCart(0, 5), 0);
        due("one wish", x.ofCart(1, 2), 1);
        due("one wish", x.ofCart(1, 3), 1);
        due("checked", x.ofCart(0, 7), 60);
        due("points", x.ofCart(1, 9), 2);
        due("points", x.ofCart(2, 9), 9);
        due("today", x.count(0), 2);
        due("days", x.ofCart(0, 11), 2);
        due("swapped", x.count(19), 1);
        due("wish of the last", x.ofCart(2, 3), 2);
        x.undo();
        due("today behind undo", x.count(0), 0);
        due("wishes behind undo", x.ofCart(0, 2), 0);
        due("points behind undo", x.ofCart(2, 9), 0);
        due("pad behind undo", x.count(6), 0);
        // Up to the first that returns an error.
        String[] texts = {"d0", "d61", "d60", "wD", "wA3", "wA11", "wA012", "fD1", "cD", "sAA", "sAD", "cA;cA", "d1;wA;fA1;d99;fA1", "fA1;fA2;cP;fA3",
            "sAB;sAB;sAB;sAB;sAB;sAB;sAB;sAB;sAB"};
        int[] done = {0, 0, 1, 0, 0, 0, 1, 0, 0, 0, 0, 1, 3, 2, 8};
        for (int i = 0; i < texts.length; i++) {
            int can = x.count(7);
            put(x, texts[i]);
            due("carryOut() of " + texts[i], x.carryOut(), done[i]);
            due("pad", x.count(6), 0);
            due("a change", x.count(7), Math.min(6, can + 1));
            x.undo();
        }
        put(x, "fA1;fA2;cP;fA3");
        x.carryOut();
        due("points of those carried out", x.ofCart(0, 9), 3);
        put(x, "fA1;d");
        int can = x.count(7);
        due("carryOut() with a fault", x.carryOut(), BAD_TEXT);
        due("the pad stays", x.count(6), 5);
        due("no change", x.count(7), can);
        due("nothing done", x.ofCart(0, 9), 3);
        put(x, "10");
        due("mended", x.carryOut(), 2);
        due("today", x.count(0), 10);
    }

    private static void undo() {
        CartPitches x = new CartPitches();
        for (int i = 1; i <= 8; i++) {
            x.pitch(i);
            due("can be undone", x.count(7), Math.min(i, 6));
        }
        due("error", x.pitch(-1), BAD_VALUE);
        due("errors do not record", x.count(7), 6);
        for (int i = 5; i >= 0; i--) {
            due("undo()", x.undo(), i);
            due("pitches", x.count(2), i + 2);
            due("last rent", x.ofPitch(i + 1, 0), i + 2);
        }
        due("undo() of none", x.undo(), NOT_POSSIBLE);
        due("pitches", x.count(2), 2);
        due("set to the same", x.set(0, 8), 8);
        due("records", x.count(7), 1);
        due("rent to the same", x.rent(0, 1), 1);
        due("records", x.count(7), 2);
        // Errors of each kind record nothing, and lose nothing of a full history.
        x.cart(0, 1);
        x.cart(1, 1);
        x.wish(0, 0, 1, NONE);
        x.check(0);
        x.fine(0, 2);
        int[] errors = {x.set(0, 0), x.seed(-1), x.pitch(-1), x.rent(5, 0), x.cart(9, 9), x.wish(0, 0, 0, NONE), x.fine(0, 0), x.check(0),
            x.swap(0, 0), x.pay(0, 0), x.days(0), x.carryOut(), x.restore(0), x.save(2), x.restore(2), x.put(0)};
        for (int error : errors) {
            due("an error", error < 0 ? 1 : 0, 1);
        }
        due("full", x.count(7), 6);
        // The pad and the slots are not undone.
        put(x, "cB");
        x.save(1);
        due("save() and put() record nothing", x.undo(), 5);
        due("points", x.ofCart(0, 9), 0);
        due("fines", x.money(0, 3), 0);
        due("pad", x.count(6), 2);
        due("slot", x.restore(1), 0);
        due("points of the slot", x.ofCart(0, 9), 2);
        due("undo() of restore()", x.undo(), 5);
        due("undo()", x.undo(), 4);
        due("waits no more", x.count(4), 0);
        due("undo()", x.undo(), 3);
        due("wishes", x.ofCart(0, 2), 0);
        due("undo()", x.undo(), 2);
        due("undo()", x.undo(), 1);
        due("carts", x.count(1), 0);
        // Days, with all that they did.
        CartPitches y = row(2);
        cart(y, 0, 0);
        cart(y, 1, 1);
        y.swap(0, 1);
        y.check(0);
        y.days(3);
        y.undo();
        int[] counts = {0, 2, 2, 1, 1, 1};
        for (int what = 0; what < 6; what++) {
            due("count(" + what + ")", y.count(what), counts[what]);
        }
        due("count(18)", y.count(18), 0);
        due("count(19)", y.count(19), 0);
        due("balance", y.money(0, 0), 0);
        due("days of the pitch", y.ofPitch(0, 1), 0);
        due("rents of the pitch", y.ofPitch(0, 2), 0);
        due("holder", y.ofPitch(0, 3), NONE);
        due("place", y.ofCart(0, 15), NONE);
        due("hour", y.ofCart(0, 13), NONE);
        due("days", y.ofCart(0, 11), 0);
        due("days again", y.days(1), 1);
        due("swap again", y.ofCart(0, 12), 1);
    }

    /** One change of each method by itself: its undo brings back all that can be asked. */
    private static void undoOfEach() {
        for (int change = 0; change < 13; change++) {
            CartPitches x = busyRow();
            long[] before = everything(x);
            due("change " + change + " is a change", changeBy(x, change) >= 0 ? 1 : 0, 1);
            due("change " + change + " changes something", java.util.Arrays.equals(before, everything(x)) ? 1 : 0, 0);
            due("can be undone", x.count(7), 6);
            due("undo() of change " + change, x.undo(), 5);
            long[] after = everything(x);
            for (int i = 0; i < before.length; i++) {
                due("answer " + i + " behind undo() of change " + change, after[i], before[i]);
            }
        }
    }

    /** A row on which something has happened already, and more is asked for. */
    private static CartPitches busyRow() {
        CartPitches x = kitchenRow(6, 2);
        x.save(0);
        cart(x, 0, 3, 2);
        cart(x, 5);
        x.fine(4, 3);
        x.pay(4, 70);
        x.swap(1, 3);
        x.days(2);
        x.check(2);
        x.swap(0, 4);
        x.swap(3, 2);
        return x;
    }

    private static int changeBy(CartPitches x, int change) {
        switch (change) {
            case 0: return x.set(0, 5);
            case 1: return x.seed(7);
            case 2: return x.pitch(7);
            case 3: return x.rent(1, 7);
            case 4: return x.cart(1, 2);
            case 5: return x.wish(0, 1, 2, 3);
            case 6: return x.fine(0, 7);
            case 7: return x.check(3);
            case 8: return x.swap(2, 1);
            case 9: return x.pay(0, 7);
            case 10: return x.days(3);
            case 11:
                put(x, "fA9;cB;sBC;wF0;d2;wA9");
                return x.carryOut();
            default: return x.restore(0);
        }
    }

    /** All that can be asked but for the pad and the history, and what the next days bring. */
    private static long[] everything(CartPitches x) {
        long[] all = new long[1000];
        int next = 0;
        for (int what = 0; what < 20; what++) {
            all[next++] = what == 6 || what == 7 ? 0 : x.count(what);
        }
        for (int c = 0; c < 8; c++) {
            for (int what = 0; what < 16; what++) {
                all[next++] = x.ofCart(c, what);
                all[next++] = x.money(c, what % 5);
            }
            for (int p = 0; p < 5; p++) {
                all[next++] = x.whyNot(c, p);
                all[next++] = x.ifWished(c, p);
            }
            all[next++] = x.wouldHave(c);
            all[next++] = x.daysOf(c, 60);
            all[next++] = x.pointsOn(c, x.count(0) + 89);
        }
        for (int p = 0; p < 5; p++) {
            for (int what = 0; what < 4; what++) {
                all[next++] = x.ofPitch(p, what);
            }
        }
        return all;
    }

    private static void save() {
        CartPitches x = busyRow();
        due("save(1)", x.save(1), 2);
        long[] saved = everything(x);
        for (int change = 0; change < 12; change++) {
            changeBy(x, change);
        }
        put(x, "cA");
        due("restore(1)", x.restore(1), 2);
        long[] restored = everything(x);
        for (int i = 0; i < saved.length; i++) {
            due("answer " + i + " as it was saved", restored[i], saved[i]);
        }
        due("the pad is not restored", x.count(6), 2);
        due("the history is not restored", x.count(7), 6);
        due("save(0) of today", x.save(0), 2);
        due("save(-1)", x.save(-1), BAD_VALUE);
        due("save(2)", x.save(2), BAD_VALUE);
        due("save(most)", x.save(MOST_INT), BAD_VALUE);
    }

    private static void restore() {
        CartPitches x = row(2);
        cart(x, 0, 0);
        due("save(2)", x.save(2), BAD_VALUE);
        due("save(-1)", x.save(-1), BAD_VALUE);
        due("restore(2)", x.restore(2), BAD_VALUE);
        due("restore(-1)", x.restore(-1), BAD_VALUE);
        due("restore(0)", x.restore(0), NOT_POSSIBLE);
        x.days(2);
        int changes = x.count(7);
        due("save(0)", x.save(0), 2);
        due("no change", x.count(7), changes);
        due("restore(1), never saved", x.restore(1), NOT_POSSIBLE);
        x.days(3);
        due("save(1)", x.save(1), 5);
        put(x, "cA");
        x.undo();
        x.undo();
        int left = x.count(7);
        due("restore(0)", x.restore(0), 2);
        due("a change", x.count(7), left + 1);
        due("pad stays", x.count(6), 2);
        due("days", x.ofCart(0, 11), 2);
        due("rents", x.money(0, 2), 200);
        due("restore(1)", x.restore(1), 5);
        due("days", x.ofCart(0, 11), 5);
        due("restore(0) again", x.restore(0), 2);
        x.set(1, 7);
        x.pitch(9);
        x.cart(3, 3);
        due("the slot keeps what was saved", x.restore(0), 2);
        due("pitches", x.count(2), 2);
        due("carts", x.count(1), 1);
        due("VALID", x.count(9), 60);
        due("save(0), overwritten", x.save(0), 2);
        x.days(1);
        x.save(0);
        x.days(1);
        due("restore(0)", x.restore(0), 3);
        // An undo behind restore() takes back the state before it.
        x.undo();
        due("today", x.count(0), 4);
        // The swaps that were asked for are restored, each with both of its carts.
        CartPitches y = row(4);
        for (int i = 0; i < 4; i++) {
            cart(y, i, i);
        }
        y.swap(0, 1);
        y.save(0);
        y.days(1);
        y.swap(3, 2);
        y.restore(0);
        due("asked for", y.count(5), 1);
        y.days(1);
        due("first", y.ofCart(0, 12), 1);
        due("second", y.ofCart(1, 12), 0);
        due("third", y.ofCart(2, 12), 2);
        due("fourth", y.ofCart(3, 12), 3);
        // A restore() of what was never saved, or of no slot, is no change.
        int can = y.count(7);
        due("restore(1)", y.restore(1), NOT_POSSIBLE);
        due("restore(most)", y.restore(MOST_INT), BAD_VALUE);
        due("no change", y.count(7), can);
    }

    private static void wildValues() {
        int[] wild = {LEAST_INT, -7, NONE, NOT_POSSIBLE, -1, 0, 1, 9, 10, 15, 16, 17, 20, 60, 200, 255, 65537, 1 << 20, MOST_INT};
        CartPitches x = row(3);
        cart(x, 0, 0, 1, 2);
        cart(x, 1, 1);
        for (int a : wild) {
            for (int b : wild) {
                x.set(a, b);
                x.rent(a, b);
                x.cart(a, b);
                x.fine(a, b);
                x.swap(a, b);
                x.pay(a, b);
                x.ofCart(a, b);
                x.money(a, b);
                x.ofPitch(a, b);
                x.pointsOn(a, b);
                x.ifWished(a, b);
                x.daysOf(a, b);
                x.luckySeed(a, b);
                x.whyNot(a, b);
                x.wish(a, b, a, b);
                x.wish(0, a, b, NONE);
            }
            x.seed(a);
            x.pitch(a);
            x.check(a);
            x.days(a);
            x.count(a);
            x.wouldHave(a);
            x.firstDay(a);
            x.put(a);
            x.carryOut();
            x.undo();
            x.save(a);
            x.restore(a);
        }
        due("carts are at most 16", x.count(1) <= 16 ? 1 : 0, 1);
    }

    public static void main(String[] args) {
        Runnable[] promises = {PromiseTests::newObject, PromiseTests::set, PromiseTests::seed, PromiseTests::pitch, PromiseTests::rent,
            PromiseTests::carts, PromiseTests::wish, PromiseTests::fine, PromiseTests::check, PromiseTests::swap, PromiseTests::pay,
            PromiseTests::lots, PromiseTests::ofCart, PromiseTests::money, PromiseTests::ofPitch, PromiseTests::count, PromiseTests::pointsOn,
            PromiseTests::wouldHave, PromiseTests::ifWished, PromiseTests::firstDay, PromiseTests::daysOf, PromiseTests::luckySeed,
            PromiseTests::whyNot, PromiseTests::put, PromiseTests::wipe, PromiseTests::fault, PromiseTests::carryOut, PromiseTests::undo,
            PromiseTests::save, PromiseTests::restore};
        for (Runnable test : promises) {
            promise++;
            test.run();
        }
        promise = 8;
        pointsLastLong();
        promise = 28;
        undoOfEach();
        promise = 12;
        wishesInLots();
        whoTakesPart();
        checksOfADay();
        kitchens();
        swaps();
        promise = 0;
        wildValues();
        System.out.println(wrong == 0 ? "all promises hold" : wrong + " answers are not as due");
        if (wrong != 0) {
            System.exit(1);
        }
    }
}
