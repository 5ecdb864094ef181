/** Each sentence of the promises 1 to 6 that names a boundary case, with a test of its own. */
public final class SetUpBoundaryTests extends Boundaries {
    private static final int[] FIRST_VALUE = {8, 60, 2, 12, 14, 90, 500, 2, 11, 200};
    private static final int[] LEAST_VALUE = {1, 1, 1, 3, 1, 1, 0, 0, 6, 0};
    private static final int[] MOST_VALUE = {20, 200, 8, 30, 60, 200, 10000, 9, 14, 5000};

    private static void newObject() {
        heading("Promise 1: A new object");
        test("Creates a row without pitches and carts", () -> {
            CartPitches x = new CartPitches();
            due("pitches", x.count(PITCHES), 0);
            due("carts", x.count(CARTS), 0);
            due("ofPitch(0, 0)", x.ofPitch(0, 0), NO_SUCH);
            due("ofCart(0, 0)", x.ofCart(0, 0), NO_SUCH);
            due("money(0, 0)", x.money(0, 0), NO_SUCH);
            due("whyNot(0, 0)", x.whyNot(0, 0), NO_SUCH);
            due("wouldHave(0)", x.wouldHave(0), NO_SUCH);
            due("luckySeed(0, NONE)", x.luckySeed(0, NONE), NO_SUCH);
            due("wish(0, NONE, NONE, NONE)", x.wish(0, NONE, NONE, NONE), NO_SUCH);
            due("swap(0, 0)", x.swap(0, 0), NO_SUCH);
            due("days(60)", x.days(60), 60);
            due("x without carts", x.count(X), 1);
            due("carts that had a pitch", x.count(HAD), 0);
        });
        test("the seed is 1", () -> {
            due("count(X)", new CartPitches().count(X), 1);
            due("seed(0)", new CartPitches().seed(0), 1);
        });
    }

    private static void set() {
        heading("Promise 2: set");
        test("This is a change.", () -> dueChange(busyRow(), x -> x.set(VALID, 9), x -> x.set(VALID, 0)));
        test("Returns the previous value", () -> {
            for (int s = 0; s < 10; s++) {
                CartPitches x = new CartPitches();
                due("set(" + s + ") of the first value", x.set(s, FIRST_VALUE[s]), FIRST_VALUE[s]);
                due("set(" + s + ") of the least", x.set(s, LEAST_VALUE[s]), FIRST_VALUE[s]);
                due("set(" + s + ") of the most", x.set(s, MOST_VALUE[s]), LEAST_VALUE[s]);
                due("set(" + s + ") of the least", x.set(s, LEAST_VALUE[s]), MOST_VALUE[s]);
                for (int other = 0; other < 10; other++) {
                    due("setting " + other, x.count(SETTING + other), other == s ? LEAST_VALUE[s] : FIRST_VALUE[other]);
                }
            }
        });
        test("BAD_VALUE if there is no such setting", () -> {
            CartPitches x = new CartPitches();
            due("set(9, 8)", x.set(9, 8), 200);
            due("set(10, 8)", x.set(10, 8), BAD_VALUE);
            for (int s : NEVER) {
                due("set(" + s + ", 8)", x.set(s, 8), BAD_VALUE);
            }
        });
        test("or the value is out of its range", () -> {
            CartPitches x = new CartPitches();
            for (int s = 0; s < 10; s++) {
                due("set(" + s + ", least - 1)", x.set(s, LEAST_VALUE[s] - 1), BAD_VALUE);
                due("set(" + s + ", most + 1)", x.set(s, MOST_VALUE[s] + 1), BAD_VALUE);
                due("set(" + s + ", LEAST_INT)", x.set(s, LEAST_INT), BAD_VALUE);
                due("set(" + s + ", MOST_INT)", x.set(s, MOST_INT), BAD_VALUE);
                due("the value", x.count(SETTING + s), FIRST_VALUE[s]);
            }
        });
    }

    private static void seed() {
        heading("Promise 3: seed");
        test("seed: 0 to 65536", () -> {
            CartPitches x = new CartPitches();
            due("seed(0)", x.seed(0), 1);
            due("x", x.count(X), 0);
            due("seed(65536)", x.seed(65536), 0);
            due("x", x.count(X), 65536);
        });
        test("This is a change.", () -> dueChange(busyRow(), x -> x.seed(9), x -> x.seed(-1)));
        test("Returns what it was", () -> {
            CartPitches x = pairs(1);
            due("seed(5)", x.seed(5), 1);
            due("seed(5)", x.seed(5), 5);
            x.days(1);
            due("what it became by the lots", x.seed(1), 449);
        });
        test("BAD_VALUE if seed is out of range", () -> {
            CartPitches x = new CartPitches();
            int[] bad = {LEAST_INT, -65537, -1, 65537, 65538, MOST_INT};
            for (int seed : bad) {
                due("seed(" + seed + ")", x.seed(seed), BAD_VALUE);
            }
            due("x", x.count(X), 1);
        });
    }

    private static void pitch() {
        heading("Promise 4: pitch");
        test("Adds a pitch at the end of the row.", () -> {
            CartPitches x = row(1);
            cart(x, 0, 0);
            x.pitch(5);
            cart(x, 0, 1);
            x.pitch(6);
            cart(x, 0, 2);
            x.seed(seedForOrder(0, 1, 2));
            x.days(1);
            due("beside the one before", x.ofCart(1, HAS), NONE);
            due("not beside the first", x.ofCart(2, HAS), 2);
        });
        test("Adds a pitch", () -> {
            // Its number is used again behind restore() and undo(): nothing of the pitch that is gone may stay.
            CartPitches x = row(1);
            x.save(0);
            x.pitch(7);
            cart(x, 0, 1);
            x.days(3);
            due("days of the one that will be gone", x.ofPitch(1, TAKEN), 3);
            x.restore(0);
            dueNewPitch(x, 9);
            x.undo();
            dueNewPitch(x, 0);
        });
        test("This is a change.", () -> dueChange(busyRow(), x -> x.pitch(9), x -> x.pitch(-1)));
        test("rent: 0 to 20000", () -> {
            CartPitches x = new CartPitches();
            x.pitch(0);
            x.pitch(20000);
            due("rent", x.ofPitch(0, RENT), 0);
            due("rent", x.ofPitch(1, RENT), 20000);
        });
        test("Returns its number", () -> {
            CartPitches x = new CartPitches();
            for (int i = 0; i < 10; i++) {
                due("pitch(9)", x.pitch(9), i);
            }
        });
        test("BAD_VALUE if rent is out of range", () -> {
            CartPitches x = new CartPitches();
            int[] bad = {LEAST_INT, -1, 20001, MOST_INT};
            for (int rent : bad) {
                due("pitch(" + rent + ")", x.pitch(rent), BAD_VALUE);
            }
            due("pitches", x.count(PITCHES), 0);
        });
        test("TOO_MANY if there are 10 pitches", () -> {
            CartPitches x = row(10);
            due("the eleventh", x.pitch(0), TOO_MANY);
            due("pitches", x.count(PITCHES), 10);
            due("undo()", x.undo(), 5);
            due("the tenth anew", x.pitch(3), 9);
            due("its rent", x.ofPitch(9, RENT), 3);
            due("the eleventh", x.pitch(0), TOO_MANY);
        });
    }

    private static void dueNewPitch(CartPitches x, int rent) {
        due("pitch()", x.pitch(rent), 1);
        int[] fresh = {rent, 0, 0, NONE};
        for (int what = 0; what < 4; what++) {
            due("ofPitch(1, " + what + ")", x.ofPitch(1, what), fresh[what]);
        }
    }

    private static void rent() {
        heading("Promise 5: rent");
        test("This is a change.", () -> dueChange(busyRow(), x -> x.rent(0, 9), x -> x.rent(0, -1)));
        test("rent: 0 to 20000", () -> {
            CartPitches x = row(2);
            x.rent(0, 0);
            x.rent(1, 20000);
            due("rent", x.ofPitch(0, RENT), 0);
            due("rent", x.ofPitch(1, RENT), 20000);
        });
        test("Returns the previous one", () -> {
            CartPitches x = row(10);
            due("rent(9, 0)", x.rent(9, 0), 1000);
            due("rent(9, 20000)", x.rent(9, 20000), 0);
            due("rent(9, 20000)", x.rent(9, 20000), 20000);
            due("that of the other", x.rent(0, 1), 100);
        });
        test("NO_SUCH if there is no such pitch", () -> {
            CartPitches x = new CartPitches();
            due("rent(0, 5) of an empty row", x.rent(0, 5), NO_SUCH);
            x.pitch(0);
            due("rent(0, 5)", x.rent(0, 5), 0);
            due("rent(1, 5)", x.rent(1, 5), NO_SUCH);
            for (int pitch : NEVER) {
                due("rent(" + pitch + ", 5)", x.rent(pitch, 5), NO_SUCH);
            }
            CartPitches y = row(10);
            due("rent(10, 5) of a full row", y.rent(10, 5), NO_SUCH);
        });
        test("BAD_VALUE if rent is out of range", () -> {
            CartPitches x = row(1);
            int[] bad = {LEAST_INT, NONE, -1, 20001, MOST_INT};
            for (int rent : bad) {
                due("rent(0, " + rent + ")", x.rent(0, rent), BAD_VALUE);
            }
            due("rent", x.ofPitch(0, RENT), 100);
        });
    }

    private static void carts() {
        heading("Promise 6: cart");
        test("Adds a cart.", () -> {
            // Its number is used again behind restore() and undo(): nothing of the cart that is gone may stay.
            CartPitches x = pairs(2);
            x.save(0);
            for (int gone = 2; gone < 4; gone++) {
                cart(x, gone, gone - 2, 3 - gone);
                x.pay(gone, 9);
                x.fine(gone, 9);
                x.fine(gone, 9);
                x.fine(gone, 2);
            }
            wish(x, 0);
            wish(x, 1);
            x.set(BAN, 1);
            x.days(40);
            x.swap(2, 3);
            x.days(10);
            wish(x, 3, 0);
            wish(x, 2, 0);
            x.days(2);
            x.check(2);
            x.check(3);
            due("losses of those that will be gone", x.ofCart(2, LOSSES) + x.ofCart(3, LOSSES) > 0 ? 1 : 0, 1);
            due("swaps of those that will be gone", x.money(2, FOR_SWAPS), 200);
            x.restore(0);
            dueNewCart(x, 4, 3);
            x.undo();
            dueNewCart(x, 0, 6);
            cart(x, 5);
            due("days", x.days(1), 1);
            due("a day without wishes", x.ofCart(2, REASON), 1);
        });
        test("This is a change.", () -> dueChange(busyRow(), x -> x.cart(0, 1), x -> x.cart(6, 1)));
        test("kind: 0 to 5", () -> {
            CartPitches x = new CartPitches();
            for (int kind = 0; kind <= 5; kind++) {
                due("cart()", x.cart(kind, 1), kind);
                due("kind", x.ofCart(kind, 0), kind);
            }
        });
        test("hours: 1 to 6", () -> {
            CartPitches x = new CartPitches();
            for (int hours = 1; hours <= 6; hours++) {
                due("cart()", x.cart(0, hours), hours - 1);
                due("hours", x.ofCart(hours - 1, 1), hours);
            }
        });
        test("Returns its number", () -> {
            CartPitches x = new CartPitches();
            for (int i = 0; i < 16; i++) {
                due("cart(5, 6)", x.cart(5, 6), i);
            }
        });
        test("BAD_VALUE if kind or hours is out of range", () -> {
            CartPitches x = new CartPitches();
            int[] badKinds = {LEAST_INT, NONE, -1, 6, MOST_INT};
            for (int kind : badKinds) {
                due("cart(" + kind + ", 1)", x.cart(kind, 1), BAD_VALUE);
            }
            int[] badHours = {LEAST_INT, NONE, -1, 0, 7, MOST_INT};
            for (int hours : badHours) {
                due("cart(0, " + hours + ")", x.cart(0, hours), BAD_VALUE);
            }
            due("cart(6, 0)", x.cart(6, 0), BAD_VALUE);
            due("carts", x.count(CARTS), 0);
        });
        test("TOO_MANY if there are 16 carts", () -> {
            CartPitches x = row(0);
            for (int i = 0; i < 16; i++) {
                x.cart(0, 1);
            }
            due("the seventeenth", x.cart(0, 1), TOO_MANY);
            due("carts", x.count(CARTS), 16);
            due("undo()", x.undo(), 5);
            due("the sixteenth anew", x.cart(3, 2), 15);
            due("its kind", x.ofCart(15, 0), 3);
            due("the seventeenth", x.cart(0, 1), TOO_MANY);
        });
    }

    private static void dueNewCart(CartPitches x, int kind, int hours) {
        due("cart()", x.cart(kind, hours), 2);
        int[] fresh = {kind, hours, 0, NONE, NONE, NONE, 0, 60, 0, 0, NONE, 0, NONE, NONE, 0, NONE};
        for (int what = 0; what < 16; what++) {
            due("ofCart(2, " + what + ")", x.ofCart(2, what), fresh[what]);
        }
        for (int what = 0; what < 5; what++) {
            due("money(2, " + what + ")", x.money(2, what), 0);
        }
    }

    public static void main(String[] args) {
        newObject();
        set();
        seed();
        pitch();
        rent();
        carts();
        end();
    }
}
