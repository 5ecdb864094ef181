/** Each sentence of the promises 7 to 12 that names a boundary case, with a test of its own. */
public final class CartBoundaryTests extends Boundaries {

    private static void wish() {
        heading("Promise 7: wish");
        test("in place of those that it had", () -> {
            CartPitches x = row(3);
            x.cart(0, 1);
            x.wish(0, 0, 1, 2);
            due("wish(0, 2, NONE, NONE)", x.wish(0, 2, NONE, NONE), 1);
            dueWishes(x, 2, NONE, NONE);
            due("wish(0, 1, 2, NONE)", x.wish(0, 1, 2, NONE), 2);
            dueWishes(x, 1, 2, NONE);
            due("wish(0, NONE, NONE, NONE)", x.wish(0, NONE, NONE, NONE), 0);
            dueWishes(x, NONE, NONE, NONE);
        });
        test("This is a change.", () -> dueChange(busyRow(), x -> x.wish(0, 1, 2, 3), x -> x.wish(0, 1, 1, 3)));
        test("first: a pitch, or NONE (then it has no wishes, whatever the others are)", () -> {
            CartPitches x = row(10);
            x.cart(0, 1);
            due("wish(0, 9, NONE, NONE)", x.wish(0, 9, NONE, NONE), 1);
            due("wish(0, 0, NONE, NONE)", x.wish(0, 0, NONE, NONE), 1);
            due("wish(0, NONE, 1, 2)", x.wish(0, NONE, 1, 2), 0);
            dueWishes(x, NONE, NONE, NONE);
            due("wish(0, NONE, 9, 9)", x.wish(0, NONE, 9, 9), 0);
            due("wish(0, NONE, NONE, 3)", x.wish(0, NONE, NONE, 3), 0);
            due("wish(0, NONE, 3, NONE)", x.wish(0, NONE, 3, NONE), 0);
            dueWishes(x, NONE, NONE, NONE);
        });
        test("second: a pitch, or NONE (then it has one wish, whatever the third one is)", () -> {
            CartPitches x = row(10);
            x.cart(0, 1);
            due("wish(0, 3, 9, NONE)", x.wish(0, 3, 9, NONE), 2);
            dueWishes(x, 3, 9, NONE);
            due("wish(0, 3, 0, NONE)", x.wish(0, 3, 0, NONE), 2);
            due("wish(0, 3, NONE, 5)", x.wish(0, 3, NONE, 5), 1);
            dueWishes(x, 3, NONE, NONE);
            due("wish(0, 4, NONE, 4)", x.wish(0, 4, NONE, 4), 1);
            dueWishes(x, 4, NONE, NONE);
        });
        test("third: a pitch, or NONE", () -> {
            CartPitches x = row(10);
            x.cart(0, 1);
            due("wish(0, 1, 0, 9)", x.wish(0, 1, 0, 9), 3);
            dueWishes(x, 1, 0, 9);
            due("wish(0, 1, 9, 0)", x.wish(0, 1, 9, 0), 3);
            dueWishes(x, 1, 9, 0);
            due("wish(0, 1, 2, NONE)", x.wish(0, 1, 2, NONE), 2);
            dueWishes(x, 1, 2, NONE);
        });
        test("Returns how many wishes it has then", () -> {
            CartPitches x = row(3);
            x.cart(0, 1);
            due("0", x.wish(0, NONE, NONE, NONE), 0);
            due("1", x.wish(0, 0, NONE, NONE), 1);
            due("2", x.wish(0, 0, 1, NONE), 2);
            due("3", x.wish(0, 0, 1, 2), 3);
        });
        test("NO_SUCH if there is no such cart", () -> dueNoSuchCart((x, cart) -> x.wish(cart, 0, 1, 2)));
        test("BAD_VALUE if a number (also one that does not count) is neither NONE nor a pitch", () -> {
            CartPitches x = row(2);
            x.cart(0, 1);
            int[] bad = {LEAST_INT, -7, NOT_POSSIBLE, NO_SUCH, 2, 9, 10, MOST_INT};
            for (int pitch : bad) {
                due("first is " + pitch, x.wish(0, pitch, NONE, NONE), BAD_VALUE);
                due("second is " + pitch, x.wish(0, 0, pitch, NONE), BAD_VALUE);
                due("third is " + pitch, x.wish(0, 0, 1, pitch), BAD_VALUE);
                due("second does not count and is " + pitch, x.wish(0, NONE, pitch, NONE), BAD_VALUE);
                due("third does not count and is " + pitch, x.wish(0, 0, NONE, pitch), BAD_VALUE);
                due("third is behind two NONE and is " + pitch, x.wish(0, NONE, NONE, pitch), BAD_VALUE);
            }
            due("wishes", x.ofCart(0, WISHES), 0);
            CartPitches empty = row(0);
            empty.cart(0, 1);
            due("a pitch of an empty row", empty.wish(0, 0, NONE, NONE), BAD_VALUE);
            due("no pitch of an empty row", empty.wish(0, NONE, NONE, NONE), 0);
            CartPitches full = row(10);
            full.cart(0, 1);
            due("the eleventh pitch", full.wish(0, 10, NONE, NONE), BAD_VALUE);
        });
        test("or two wishes that it would have are the same", () -> {
            CartPitches x = row(3);
            x.cart(0, 1);
            due("first and second", x.wish(0, 1, 1, NONE), BAD_VALUE);
            due("first and second of three", x.wish(0, 1, 1, 2), BAD_VALUE);
            due("first and third", x.wish(0, 1, 2, 1), BAD_VALUE);
            due("second and third", x.wish(0, 2, 1, 1), BAD_VALUE);
            due("all", x.wish(0, 0, 0, 0), BAD_VALUE);
            due("wishes", x.ofCart(0, WISHES), 0);
            due("first and one that does not count", x.wish(0, 1, NONE, 1), 1);
            due("two that do not count", x.wish(0, NONE, 1, 1), 0);
        });
    }

    private static void dueWishes(CartPitches x, int first, int second, int third) {
        due("first wish", x.ofCart(0, 3), first);
        due("second wish", x.ofCart(0, 4), second);
        due("third wish", x.ofCart(0, 5), third);
        due("wishes", x.ofCart(0, WISHES), first == NONE ? 0 : second == NONE ? 1 : third == NONE ? 2 : 3);
    }

    private static void fine() {
        heading("Promise 8: fine");
        test("This is a change.", () -> dueChange(busyRow(), x -> x.fine(0, 1), x -> x.fine(0, 0)));
        test("points: 1 to 9", () -> {
            CartPitches x = pairs(2);
            due("fine(0, 1)", x.fine(0, 1), 1);
            due("fine(1, 9)", x.fine(1, 9), 9);
        });
        test("Returns its points then (0 if it is banned by this)", () -> {
            CartPitches x = pairs(1);
            x.days(1);
            due("the first", x.fine(0, 6), 6);
            x.days(1);
            due("with those of another day", x.fine(0, 5), 11);
            due("at LIMIT", x.fine(0, 1), 0);
            due("again", x.fine(0, 9), 9);
            due("above LIMIT", x.fine(0, 9), 0);
            due("again", x.fine(0, 2), 2);
            x.set(LAPSE, 1);
            x.days(1);
            due("without those that lapsed", x.fine(0, 3), 3);
        });
        test("NO_SUCH if there is no such cart", () -> dueNoSuchCart((x, cart) -> x.fine(cart, 1)));
        test("BAD_VALUE if points is out of range", () -> {
            CartPitches x = pairs(1);
            int[] bad = {LEAST_INT, NONE, -1, 0, 10, MOST_INT};
            for (int points : bad) {
                due("fine(0, " + points + ")", x.fine(0, points), BAD_VALUE);
            }
            due("points", x.ofCart(0, POINTS), 0);
            due("fines", x.money(0, FINES), 0);
        });
    }

    private static void check() {
        heading("Promise 9: check");
        test("This is a change.", () -> dueChange(busyRow(), x -> x.check(0), x -> x.check(2)));
        test("Returns how many carts wait then", () -> {
            CartPitches x = row(0);
            for (int i = 0; i < 16; i++) {
                x.cart(0, 1);
            }
            for (int i = 15; i >= 0; i--) {
                due("check(" + i + ")", x.check(i), 16 - i);
            }
            x.days(1);
            due("behind a day", x.check(1), 15);
        });
        test("NO_SUCH if there is no such cart", () -> dueNoSuchCart((x, cart) -> x.check(cart)));
        test("NOT_POSSIBLE if it waits already", () -> {
            CartPitches x = row(0);
            x.cart(0, 1);
            x.cart(0, 1);
            x.set(CHECKS, 1);
            due("check(0)", x.check(0), 1);
            due("check(0) again", x.check(0), NOT_POSSIBLE);
            due("check(1)", x.check(1), 2);
            due("check(1) again", x.check(1), NOT_POSSIBLE);
            x.days(1);
            due("check(1), that was not checked yet", x.check(1), NOT_POSSIBLE);
            due("check(0), that was checked", x.check(0), 2);
        });
    }

    private static void swap() {
        heading("Promise 10: swap");
        test("for the next day that passes", () -> {
            CartPitches x = pairs(2);
            x.swap(0, 1);
            x.days(2);
            due("done", x.count(SWAPPED), 1);
            due("the pitch on the second day", x.ofCart(0, HAS), 0);
        });
        test("This is a change.", () -> dueChange(busyRow(), x -> x.swap(0, 2), x -> x.swap(0, 0)));
        test("Returns how many swaps are asked for then", () -> {
            CartPitches x = pairs(2);
            for (int i = 1; i <= 8; i++) {
                due("swap()", x.swap(i % 2, 1 - i % 2), i);
            }
            x.days(1);
            due("behind a day", x.swap(0, 1), 1);
        });
        test("NO_SUCH if there is no such cart", () -> {
            dueNoSuchCart((x, cart) -> x.swap(cart, cart == 0 ? 1 : 0));
            dueNoSuchCart((x, cart) -> x.swap(cart == 0 ? 1 : 0, cart));
        });
        test("or both are the same", () -> {
            CartPitches x = pairs(3);
            for (int i = 0; i < 3; i++) {
                due("swap(" + i + ", " + i + ")", x.swap(i, i), NO_SUCH);
            }
            due("asked for", x.count(SWAPS), 0);
        });
        test("TOO_MANY if 8 are asked for", () -> {
            CartPitches x = pairs(2);
            for (int i = 0; i < 7; i++) {
                x.swap(0, 1);
            }
            due("the eighth", x.swap(0, 1), 8);
            due("the ninth", x.swap(1, 0), TOO_MANY);
            due("asked for", x.count(SWAPS), 8);
            x.undo();
            due("the eighth anew", x.swap(1, 0), 8);
            due("the ninth", x.swap(1, 0), TOO_MANY);
        });
    }

    private static void pay() {
        heading("Promise 11: pay");
        test("This is a change.", () -> dueChange(busyRow(), x -> x.pay(0, 1), x -> x.pay(0, 0)));
        test("cents: 1 to 1000000", () -> {
            CartPitches x = pairs(2);
            due("pay(0, 1)", x.pay(0, 1), 1);
            due("pay(1, 1000000)", x.pay(1, 1000000), 1);
            due("balance", x.money(0, BALANCE), 1);
            due("balance", x.money(1, BALANCE), 1000000);
        });
        test("Returns 1 if its balance is at least 0 then, otherwise 0", () -> {
            CartPitches x = pairs(1);
            x.days(1);
            due("pay(0, 98)", x.pay(0, 98), 0);
            due("up to -1", x.pay(0, 1), 0);
            due("up to 0", x.pay(0, 1), 1);
            due("up to 1", x.pay(0, 1), 1);
        });
        test("NO_SUCH if there is no such cart", () -> dueNoSuchCart((x, cart) -> x.pay(cart, 1)));
        test("BAD_VALUE if cents is out of range", () -> {
            CartPitches x = pairs(1);
            int[] bad = {LEAST_INT, NONE, -1, 0, 1000001, MOST_INT};
            for (int cents : bad) {
                due("pay(0, " + cents + ")", x.pay(0, cents), BAD_VALUE);
            }
            due("paid in", x.money(0, PAID_IN), 0);
        });
    }

    private static void days() {
        heading("Promise 12: days");
        test("This is a change.", () -> dueChange(busyRow(), x -> x.days(2), x -> x.days(0)));
        test("days: 1 to 60", () -> {
            CartPitches x = pairs(1);
            due("days(1)", x.days(1), 1);
            due("days of the cart", x.ofCart(0, DAYS), 1);
            due("days(60)", x.days(60), 61);
            due("days of the cart", x.ofCart(0, DAYS), 61);
        });
        test("Returns today then", () -> {
            CartPitches x = row(0);
            due("days(60)", x.days(60), 60);
            due("days(1)", x.days(1), 61);
            due("days(59)", x.days(59), 120);
            due("count(TODAY)", x.count(TODAY), 120);
        });
        test("BAD_VALUE if days is out of range", () -> {
            CartPitches x = pairs(1);
            int[] bad = {LEAST_INT, NONE, -1, 0, 61, 99, MOST_INT};
            for (int days : bad) {
                due("days(" + days + ")", x.days(days), BAD_VALUE);
            }
            due("today", x.count(TODAY), 0);
        });
    }

    public static void main(String[] args) {
        wish();
        fine();
        check();
        swap();
        pay();
        days();
        end();
    }
}
