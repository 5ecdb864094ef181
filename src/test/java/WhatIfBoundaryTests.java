/** Each sentence of the promises 18 to 23 that names a boundary case, with a test of its own. */
public final class WhatIfBoundaryTests extends Boundaries {

    /** What is asked on a busy row and on a full one changes nothing in it. */
    private static void dueNoChange(Call call) {
        CartPitches busy = busyRow();
        call.on(busy);
        dueAll("a question to the busy row", inside(busy), inside(busyRow()));
        CartPitches full = fullRow();
        call.on(full);
        dueAll("a question to the full row", inside(full), inside(fullRow()));
    }

    private static void nothingChanges() {
        heading("The public face");
        test("what if; nothing changes", () -> {
            dueNoChange(x -> x.wouldHave(0));
            dueNoChange(x -> x.ifWished(4, 0));
            dueNoChange(x -> x.firstDay(5));
            dueNoChange(x -> x.daysOf(0, 60));
            dueNoChange(x -> x.luckySeed(0, NONE));
            dueNoChange(x -> x.luckySeed(5, NONE));
            dueNoChange(x -> x.whyNot(0, 0));
        });
    }

    private static void wouldHave() {
        heading("Promise 18: wouldHave");
        test("if the day passed now", () -> {
            CartPitches x = pairs(2);
            wish(x, 1);
            x.set(VALID, 1);
            cart(x, 2, 1);
            for (int day = 0; day < 4; day++) {
                int would = x.wouldHave(2);
                due("on the day " + day, would, day <= 1 ? 1 : NONE);
                x.days(1);
                due("as it came on the day " + day, x.ofCart(2, HAS), would);
            }
            x.check(2);
            due("behind another change", x.wouldHave(2), 1);
        });
        test("Returns the pitch", () -> {
            CartPitches x = row(10);
            cart(x, 0, 0);
            cart(x, 1, 9);
            due("the first pitch", x.wouldHave(0), 0);
            due("the last pitch", x.wouldHave(1), 9);
            x.swap(0, 1);
            due("by a swap", x.wouldHave(0), 9);
            due("by a swap", x.wouldHave(1), 0);
        });
        test("NO_SUCH if there is no such cart", () -> dueNoSuchCart((x, cart) -> x.wouldHave(cart)));
        test("NONE if it would have none", () -> {
            CartPitches x = row(3);
            x.set(LIMIT, 3);
            cart(x, 0);
            cart(x, 1, 0);
            cart(x, 2, 0);
            x.set(VALID, 1);
            cart(x, 3, 1);
            x.seed(seedForOrder(1, 2, 3));
            due("no wishes", x.wouldHave(0), NONE);
            due("drawn second", x.wouldHave(2), NONE);
            due("with a valid check", x.wouldHave(3), 1);
            x.days(2);
            due("without a valid check", x.wouldHave(3), NONE);
            x.check(3);
            due("with a check in the morning", x.wouldHave(3), 1);
            x.fine(1, 3);
            due("banned", x.wouldHave(1), NONE);
            due("in its place", x.wouldHave(2), 0);
            due("no kitchen", kitchens(6, 6, 6, 1).wouldHave(2), NONE);
        });
    }

    private static void ifWished() {
        heading("Promise 19: ifWished");
        test("if it had just one wish", () -> {
            CartPitches x = row(10);
            cart(x, 0, 3, 4, 5);
            cart(x, 1);
            cart(x, 2, 0);
            x.seed(seedForOrder(2, 0));
            due("the last pitch", x.ifWished(0, 9), 9);
            due("one of its wishes", x.ifWished(0, 5), 5);
            due("none of the wishes that it has in truth", x.ifWished(0, 0), NONE);
            due("a cart without wishes", x.ifWished(1, 9), 9);
            due("wishes", x.ofCart(0, WISHES), 3);
            due("no wishes", x.ofCart(1, WISHES), 0);
        });
        test("Returns the pitch, which can be another one by a swap", () -> {
            CartPitches x = row(3);
            cart(x, 0);
            cart(x, 1, 0);
            x.swap(0, 1);
            due("the other's pitch", x.ifWished(0, 2), 0);
            due("not both on one", x.ifWished(1, 0), 0);
        });
        test("NO_SUCH if there is no such cart or pitch", () -> {
            dueNoSuchCart((x, cart) -> x.ifWished(cart, 0));
            dueNoSuchPitch((x, pitch) -> x.ifWished(0, pitch));
            due("NONE is no pitch", pairs(1).ifWished(0, NONE), NO_SUCH);
        });
        test("NONE if it would have none", () -> {
            CartPitches x = row(3);
            x.set(LIMIT, 3);
            cart(x, 0, 0);
            cart(x, 0);
            cart(x, 1);
            x.seed(seedForOrder(0, 1));
            due("taken", x.ifWished(1, 0), NONE);
            due("beside its kind", x.ifWished(1, 1), NONE);
            due("not beside its kind", x.ifWished(1, 2), 2);
            x.fine(2, 3);
            due("banned", x.ifWished(2, 2), NONE);
            x.set(VALID, 1);
            cart(x, 3);
            x.days(2);
            due("without a valid check", x.ifWished(3, 2), NONE);
        });
    }

    private static void firstDay() {
        heading("Promise 20: firstDay");
        test("if only days passed", () -> {
            CartPitches x = pairs(2);
            x.set(VALID, 1);
            x.set(CHECKS, 1);
            for (int i = 2; i < 6; i++) {
                wish(x, cart(x, i), 1);
            }
            wish(x, 1);
            x.days(2);
            for (int i = 2; i < 6; i++) {
                due("without a check", x.firstDay(i), NONE);
                x.check(i);
            }
            for (int i = 2; i < 6; i++) {
                wish(x, 2);
                wish(x, 3);
                wish(x, 4);
                wish(x, 5);
                wish(x, i, 1);
                due("by the checks that are asked for", x.firstDay(i), i - 2);
                due("days of it", x.daysOf(i, 60), 2);
            }
        });
        test("Returns how many days from now (0: today)", () -> {
            CartPitches x = pairs(2);
            x.set(LIMIT, 3);
            due("today", x.firstDay(0), 0);
            x.set(BAN, 1);
            x.fine(0, 3);
            due("banned up to tomorrow", x.firstDay(0), 2);
            x.days(1);
            due("a day later", x.firstDay(0), 1);
            x.days(1);
            due("two days later", x.firstDay(0), 0);
        });
        test("NO_SUCH if there is no such cart", () -> dueNoSuchCart((x, cart) -> x.firstDay(cart)));
        test("NONE if it would have none on the next 60 days (today and 59 more)", () -> {
            int[][] bansAndFirst = {{57, 58}, {58, 59}, {59, NONE}, {60, NONE}};
            for (int[] told : bansAndFirst) {
                CartPitches x = pairs(1);
                x.set(VALID, 200);
                x.cart(0, 1);
                x.wish(1, 0, NONE, NONE);
                x.wish(0, NONE, NONE, NONE);
                x.set(LIMIT, 3);
                x.set(BAN, told[0]);
                x.fine(1, 3);
                due("with a ban of " + told[0] + " days", x.firstDay(1), told[1]);
                due("without wishes", x.firstDay(0), NONE);
                x.days(1);
                due("a day later", x.firstDay(1), told[0] < 60 ? told[0] : NONE);
            }
        });
    }

    private static void daysOf() {
        heading("Promise 21: daysOf");
        test("days: 1 to 60", () -> {
            CartPitches x = pairs(1);
            due("daysOf(0, 1)", x.daysOf(0, 1), 1);
            due("daysOf(0, 60)", x.daysOf(0, 60), 60);
        });
        test("Returns how many", () -> {
            CartPitches x = pairs(1);
            cart(x, 1);
            due("no day", x.daysOf(1, 60), 0);
            x.days(1);
            due("up to the last day of the check", x.daysOf(0, 60), 60);
            x.days(1);
            due("all but the last day", x.daysOf(0, 60), 59);
            x.set(LIMIT, 3);
            x.set(BAN, 58);
            x.fine(0, 3);
            due("banned on all of 58 days", x.daysOf(0, 58), 0);
            x.set(VALID, 200);
            x.check(0);
            due("banned on all of 59 days", x.daysOf(0, 59), 0);
            due("banned on 59 of 60 days", x.daysOf(0, 60), 1);
        });
        test("NO_SUCH if there is no such cart", () -> dueNoSuchCart((x, cart) -> x.daysOf(cart, 1)));
        test("BAD_VALUE if days is out of range", () -> {
            CartPitches x = pairs(1);
            int[] bad = {LEAST_INT, NONE, -1, 0, 61, MOST_INT};
            for (int days : bad) {
                due("daysOf(0, " + days + ")", x.daysOf(0, days), BAD_VALUE);
            }
        });
    }

    private static void luckySeed() {
        heading("Promise 22: luckySeed");
        test("pitch: the pitch, or NONE for any", () -> {
            CartPitches x = row(10);
            cart(x, 0, 0, 9);
            cart(x, 1, 0);
            // With an even number the first one is drawn first: 74 is behind 0, 149 behind 1.
            due("any", x.luckySeed(0, NONE), 0);
            due("the first pitch", x.luckySeed(0, 0), 0);
            due("the last pitch", x.luckySeed(0, 9), 1);
            due("a pitch that it never has", x.luckySeed(0, 5), NONE);
            due("any, of the other", x.luckySeed(1, NONE), 1);
            x.swap(0, 1);
            due("by a swap", x.luckySeed(1, 9), 1);
        });
        test("Returns the least seed of 0 to 199", () -> {
            CartPitches x = pairs(1);
            x.seed(5);
            due("the least", x.luckySeed(0, 0), 0);
            due("x stays", x.count(X), 5);
            // (75 * 199 + 74) % (13 * 16 + 1) = 160 = 10 * 16
            due("the most", leastSeed(14, 16, 10), 199);
        });
        test("NO_SUCH if there is no such cart, or pitch is neither NONE nor a pitch", () -> {
            dueNoSuchCart((x, cart) -> x.luckySeed(cart, NONE));
            dueNoSuchCart((x, cart) -> x.luckySeed(cart, 0));
            dueNoSuchPitch((x, pitch) -> x.luckySeed(0, pitch));
        });
        test("NONE if there is no such seed", () -> {
            // (75 * 200 + 74) % (14 * 17 + 1) = 17 = 1 * 17
            due("the least one is 200", leastSeed(15, 17, 1), NONE);
            CartPitches x = row(1);
            cart(x, 0);
            due("no wishes", x.luckySeed(0, NONE), NONE);
        });
    }

    /**
     * Carts that all wish the one pitch, so that who is drawn first has it: one of them has had it for so many days that the
     * others have so many tickets. The answer is the least seed for which 75 * seed + 74, left over by all tickets, is its own.
     */
    private static int leastSeed(int carts, int tickets, int lucky) {
        CartPitches x = row(1);
        x.set(TICKETS, 20);
        for (int i = 0; i < carts; i++) {
            cart(x, i % 6, 0);
        }
        for (int each = 1; each < tickets; each++) {
            x.seed(seedFor((carts - 1) * each + 1, lucky * each));
            x.days(1);
        }
        due("losses of the lucky one", x.ofCart(lucky, LOSSES), 0);
        due("losses of the others", x.ofCart(lucky + 1, LOSSES), tickets - 1);
        return x.luckySeed(lucky, 0);
    }

    private static void whyNot() {
        heading("Promise 23: whyNot");
        test("as things were at the end of the last day that passed", () -> {
            CartPitches x = row(4);
            cart(x, 0, 0);
            cart(x, 1, 3);
            cart(x, 2);
            due("no day passed", x.whyNot(2, 0), 0);
            x.swap(0, 1);
            x.days(1);
            due("behind the swaps", x.whyNot(0, 3), 0);
            due("behind the swaps", x.whyNot(1, 3), 1);
            wish(x, 0);
            due("wishes that come later", x.whyNot(2, 3), 1);
            x.cart(0, 1);
            due("a cart that comes later", x.whyNot(3, 2), 2);
            due("a cart that comes later", x.whyNot(3, 3), 1);
            x.pitch(0);
            due("a pitch that comes later", x.whyNot(3, 4), 2);
            x.days(1);
            due("nobody's on the next day", x.whyNot(2, 0), 0);
            due("another's on the next day", x.whyNot(0, 3), 1);
            CartPitches y = kitchens(6, 6, 6, 1);
            y.days(1);
            due("lost for want of a kitchen", y.whyNot(0, 2), 0);
        });
        test("Returns 0 if it could", () -> {
            CartPitches x = row(10);
            cart(x, 0, 0);
            cart(x, 1, 5);
            cart(x, 0);
            x.days(1);
            due("its own", x.whyNot(0, 0), 0);
            due("beside another kind", x.whyNot(0, 4), 0);
            due("two away from its kind", x.whyNot(2, 2), 0);
            due("the other end of the row", x.whyNot(2, 9), 0);
        });
        test("1 another cart had the pitch", () -> {
            CartPitches x = row(4);
            cart(x, 0, 0);
            cart(x, 1, 1);
            cart(x, 0, 3);
            x.days(1);
            due("of its kind", x.whyNot(0, 3), 1);
            due("of another kind", x.whyNot(1, 0), 1);
            due("and beside its kind: the first that applies", x.whyNot(2, 1), 1);
            due("its own", x.whyNot(1, 1), 0);
        });
        test("2 a cart of its kind had a pitch side by side with it (not the cart itself)", () -> {
            CartPitches x = row(10);
            cart(x, 0, 0);
            cart(x, 0, 9);
            cart(x, 0);
            cart(x, 1, 5);
            x.days(1);
            due("on the left", x.whyNot(2, 1), 2);
            due("on the right", x.whyNot(2, 8), 2);
            due("another kind on the left", x.whyNot(2, 6), 0);
            due("another kind on the right", x.whyNot(2, 4), 0);
            due("the cart itself on the left", x.whyNot(0, 1), 0);
            due("the cart itself on the right", x.whyNot(1, 8), 0);
            due("the cart itself, and the other behind the end", x.whyNot(0, 8), 2);
        });
        test("NO_SUCH if there is no such cart or pitch", () -> {
            dueNoSuchCart((x, cart) -> x.whyNot(cart, 0));
            dueNoSuchPitch((x, pitch) -> x.whyNot(0, pitch));
            due("NONE is no pitch", pairs(1).whyNot(0, NONE), NO_SUCH);
        });
    }

    public static void main(String[] args) {
        nothingChanges();
        wouldHave();
        ifWished();
        firstDay();
        daysOf();
        luckySeed();
        whyNot();
        end();
    }
}
