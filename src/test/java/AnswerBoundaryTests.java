/** Each sentence of the promises 13 to 17 that names a boundary case, with a test of its own. */
public final class AnswerBoundaryTests extends Boundaries {

    private static void ofCart() {
        heading("Promise 13: ofCart");
        test("what: 0 its kind, 1 its hours in a kitchen, 2 its wishes", () -> {
            CartPitches x = row(3);
            x.cart(0, 1);
            x.cart(5, 6);
            due("the least kind", x.ofCart(0, 0), 0);
            due("the least hours", x.ofCart(0, 1), 1);
            due("no wishes", x.ofCart(0, WISHES), 0);
            x.wish(1, 2, 1, 0);
            due("the most kind", x.ofCart(1, 0), 5);
            due("the most hours", x.ofCart(1, 1), 6);
            due("all wishes", x.ofCart(1, WISHES), 3);
        });
        test("3 to 5 the wishes (NONE if there are not so many)", () -> {
            CartPitches x = row(10);
            x.cart(0, 1);
            for (int i = 0; i < 3; i++) {
                due("wish " + i + " of a new cart", x.ofCart(0, 3 + i), NONE);
            }
            int[][] wishes = {{NONE, NONE, NONE}, {0, NONE, NONE}, {9, 0, NONE}, {0, 9, 8}, {9, NONE, NONE}};
            for (int[] w : wishes) {
                x.wish(0, w[0], w[1], w[2]);
                for (int i = 0; i < 3; i++) {
                    due("wish " + i, x.ofCart(0, 3 + i), w[i]);
                }
            }
            x.wish(0, 1, NONE, 2);
            due("one that does not count", x.ofCart(0, 5), NONE);
        });
        test("6 its losses", () -> {
            CartPitches x = row(1);
            cart(x, 0, 0);
            cart(x, 1, 0);
            due("at first", x.ofCart(1, LOSSES), 0);
            for (int day = 1; day <= 25; day++) {
                // The second one has as many tickets as it can, the first one has 1: ticket 0 is the first one's.
                x.seed(seedFor(1 + Math.min(day, 8), 0));
                x.days(1);
                due("more than TICKETS, in the end", x.ofCart(1, LOSSES), day);
                due("of the one that has the pitch", x.ofCart(0, LOSSES), 0);
            }
            x.seed(seedFor(9, 1));
            x.days(1);
            due("0 again", x.ofCart(1, LOSSES), 0);
            due("the other's", x.ofCart(0, LOSSES), 1);
        });
        test("7 the day up to which its check is valid", () -> {
            CartPitches x = row(0);
            x.set(VALID, 1);
            x.cart(0, 1);
            x.set(VALID, 200);
            x.cart(0, 1);
            due("the least", x.ofCart(0, VALID_UP_TO), 1);
            due("the most", x.ofCart(1, VALID_UP_TO), 200);
            x.days(60);
            due("a day that is past", x.ofCart(0, VALID_UP_TO), 1);
            x.check(0);
            due("not by waiting", x.ofCart(0, VALID_UP_TO), 1);
            x.days(1);
            due("behind the check", x.ofCart(0, VALID_UP_TO), 260);
        });
        test("8 whether it waits for a check (1 or 0)", () -> {
            CartPitches x = row(0);
            x.cart(0, 1);
            due("at first", x.ofCart(0, WAITS), 0);
            x.check(0);
            due("waits", x.ofCart(0, WAITS), 1);
            x.days(1);
            due("was checked", x.ofCart(0, WAITS), 0);
        });
        test("9 its points", () -> {
            CartPitches x = row(0);
            x.cart(0, 1);
            x.set(LIMIT, 30);
            due("at first", x.ofCart(0, POINTS), 0);
            x.fine(0, 9);
            x.fine(0, 9);
            x.fine(0, 9);
            x.fine(0, 2);
            due("the most", x.ofCart(0, POINTS), 29);
            x.fine(0, 1);
            due("none behind a ban", x.ofCart(0, POINTS), 0);
        });
        test("10 the day up to which it is banned (NONE if it was never banned)", () -> {
            CartPitches x = row(0);
            x.cart(0, 1);
            x.set(BAN, 1);
            x.fine(0, 9);
            x.fine(0, 2);
            due("never banned, a point below LIMIT", x.ofCart(0, BANNED_UP_TO), NONE);
            x.fine(0, 1);
            due("banned", x.ofCart(0, BANNED_UP_TO), 1);
            x.days(60);
            due("the ban is over", x.ofCart(0, BANNED_UP_TO), 1);
        });
        test("11 the days on which it had a pitch", () -> {
            CartPitches x = kitchens(6, 6, 6, 1);
            due("at first", x.ofCart(0, DAYS), 0);
            x.days(1);
            due("had one", x.ofCart(0, DAYS), 1);
            due("lost it for want of a kitchen", x.ofCart(2, DAYS), 0);
            wish(x, 0);
            x.days(60);
            due("the days before stay", x.ofCart(0, DAYS), 1);
        });
        test("12 the pitch that it had on the last day that passed (NONE if it had none)", () -> {
            CartPitches x = row(10);
            cart(x, 0, 0);
            cart(x, 1, 9);
            cart(x, 2);
            due("no day passed", x.ofCart(0, HAS), NONE);
            x.days(1);
            due("the first pitch", x.ofCart(0, HAS), 0);
            due("the last pitch", x.ofCart(1, HAS), 9);
            due("none", x.ofCart(2, HAS), NONE);
            wish(x, 0);
            due("as it was on that day", x.ofCart(0, HAS), 0);
            x.days(1);
            due("a day later", x.ofCart(0, HAS), NONE);
        });
        test("13 the hour at which its hours in the kitchen began on that day (NONE if it had none)", () -> {
            CartPitches x = kitchens(6, 5, 6, 1, 1);
            cart(x, 4);
            due("no day passed", x.ofCart(0, HOUR), NONE);
            x.days(1);
            due("the first hour", x.ofCart(0, HOUR), 0);
            due("the first hour in the other kitchen", x.ofCart(1, HOUR), 0);
            due("the last hour", x.ofCart(2, HOUR), 5);
            due("found none", x.ofCart(3, HOUR), NONE);
            due("took no part", x.ofCart(4, HOUR), NONE);
            wish(x, 0);
            x.days(1);
            due("a day later", x.ofCart(0, HOUR), NONE);
        });
        test("14 the reason why it had no pitch then", () -> {
            CartPitches x = pairs(1);
            due("no day passed", x.ofCart(0, REASON), 0);
            x.days(1);
            due("it had one", x.ofCart(0, REASON), 0);
            wish(x, 0);
            due("as it was on that day", x.ofCart(0, REASON), 0);
            x.days(1);
            due("no wishes", x.ofCart(0, REASON), 1);
        });
        test("15 its place in the order in which carts were drawn on that day (NONE if it was not drawn)", () -> {
            CartPitches x = row(1);
            for (int i = 0; i < 16; i++) {
                cart(x, 0, 0);
            }
            due("no day passed", x.ofCart(0, PLACE), NONE);
            x.days(1);
            int seen = 0;
            for (int i = 0; i < 16; i++) {
                int place = x.ofCart(i, PLACE);
                due("a place of 0 to 15", place >= 0 && place < 16 ? 1 : 0, 1);
                seen |= 1 << place;
            }
            due("each place once", seen, 65535);
            due("the place of who has the pitch", x.ofCart(x.ofPitch(0, HOLDER), PLACE), 0);
            wish(x, 15);
            x.days(1);
            due("not drawn", x.ofCart(15, PLACE), NONE);
        });
        test("NO_SUCH if there is no such cart", () -> {
            for (int what = 0; what < 16; what++) {
                int asked = what;
                dueNoSuchCart((x, cart) -> x.ofCart(cart, asked));
            }
        });
        test("BAD_VALUE if what is out of range", () -> {
            CartPitches x = pairs(1);
            int[] bad = {LEAST_INT, NONE, -1, 16, 17, MOST_INT};
            for (int what : bad) {
                due("ofCart(0, " + what + ")", x.ofCart(0, what), BAD_VALUE);
            }
            due("ofCart(0, 15)", x.ofCart(0, 15), NONE);
            due("ofCart(0, 0)", x.ofCart(0, 0), 0);
        });
    }

    private static void money() {
        heading("Promise 14: money");
        test("0 its balance, 1 what it paid in, 2 its rents, 3 its fines, 4 what it paid for swaps", () -> {
            CartPitches x = pairs(2);
            for (int what = 0; what < 5; what++) {
                due("money(0, " + what + ") at first", x.money(0, what), 0);
            }
            x.pay(0, 1000000);
            x.fine(0, 1);
            x.swap(0, 1);
            x.days(1);
            long[] all = {1000000 - 200 - 500 - 200, 1000000, 200, 500, 200};
            for (int what = 0; what < 5; what++) {
                due("money(0, " + what + ")", x.money(0, what), all[what]);
            }
        });
        test("Returns the sum (the balance can be below 0, also -1)", () -> {
            CartPitches x = pairs(1);
            x.days(1);
            int[] balances = {-6, -5, -4, -3, -2, -1, 0, 1};
            x.pay(0, 93);
            for (int balance : balances) {
                x.pay(0, 1);
                due("balance", x.money(0, BALANCE), balance);
            }
        });
        test("NO_SUCH if there is no such cart", () -> {
            for (int what = 0; what < 5; what++) {
                int asked = what;
                dueNoSuchCart((x, cart) -> x.money(cart, asked));
            }
        });
        test("BAD_VALUE if what is out of range", () -> {
            CartPitches x = pairs(1);
            int[] bad = {LEAST_INT, NONE, -1, 5, 6, MOST_INT};
            for (int what : bad) {
                due("money(0, " + what + ")", x.money(0, what), BAD_VALUE);
            }
        });
    }

    private static void ofPitch() {
        heading("Promise 15: ofPitch");
        test("0 its rent, 1 the days on which a cart had it, 2 the rents that were paid for it", () -> {
            CartPitches x = row(2);
            cart(x, 0, 1);
            for (int what = 1; what < 3; what++) {
                due("ofPitch(1, " + what + ") at first", x.ofPitch(1, what), 0);
            }
            x.rent(1, 20000);
            x.days(60);
            due("rent", x.ofPitch(1, RENT), 20000);
            due("days", x.ofPitch(1, TAKEN), 60);
            due("rents", x.ofPitch(1, RENTS_PAID), 1200000);
            due("days of the one that nobody had", x.ofPitch(0, TAKEN), 0);
        });
        test("3 the cart that had it on the last day that passed (NONE if none had)", () -> {
            CartPitches x = row(2);
            cart(x, 0, 0);
            due("no day passed", x.ofPitch(0, HOLDER), NONE);
            x.days(1);
            due("the first cart", x.ofPitch(0, HOLDER), 0);
            due("nobody", x.ofPitch(1, HOLDER), NONE);
            x.pitch(5);
            due("a new one", x.ofPitch(2, HOLDER), NONE);
            wish(x, 0);
            due("as it was on that day", x.ofPitch(0, HOLDER), 0);
            x.days(1);
            due("a day later", x.ofPitch(0, HOLDER), NONE);
            CartPitches full = row(1);
            for (int i = 0; i < 15; i++) {
                full.cart(0, 1);
            }
            cart(full, 0, 0);
            full.days(1);
            due("the last cart", full.ofPitch(0, HOLDER), 15);
        });
        test("NO_SUCH if there is no such pitch", () -> {
            for (int what = 0; what < 4; what++) {
                int asked = what;
                dueNoSuchPitch((x, pitch) -> x.ofPitch(pitch, asked));
                due("ofPitch(NONE, " + what + ")", row(10).ofPitch(NONE, what), NO_SUCH);
            }
        });
        test("BAD_VALUE if what is out of range", () -> {
            CartPitches x = pairs(1);
            int[] bad = {LEAST_INT, NONE, -1, 4, 5, MOST_INT};
            for (int what : bad) {
                due("ofPitch(0, " + what + ")", x.ofPitch(0, what), BAD_VALUE);
            }
        });
    }

    private static void count() {
        heading("Promise 16: count");
        test("0 today, 1 carts, 2 pitches, 3 the number x of the lots, 4 carts that wait for a check, 5 swaps that are asked for", () -> {
            int[] first = {0, 0, 0, 1, 0, 0};
            CartPitches empty = new CartPitches();
            for (int what = 0; what < 6; what++) {
                due("count(" + what + ") at first", empty.count(what), first[what]);
            }
            CartPitches full = fullRow();
            full.seed(65536);
            int[] most = {3, 16, 10, 65536, 16, 8};
            for (int what = 0; what < 6; what++) {
                due("count(" + what + ") of the full row", full.count(what), most[what]);
            }
        });
        test("6 the length of the pad", () -> {
            CartPitches x = new CartPitches();
            due("empty", x.count(PAD), 0);
            for (int i = 1; i <= 80; i++) {
                x.put(packed("z"));
                due("length", x.count(PAD), i);
            }
            x.put(packed("z"));
            due("full", x.count(PAD), 80);
            x.wipe();
            due("empty", x.count(PAD), 0);
        });
        test("7 how many changes can be undone", () -> {
            CartPitches x = new CartPitches();
            for (int i = 0; i < 9; i++) {
                due("behind " + i + " changes", x.count(UNDOABLE), Math.min(i, 6));
                x.seed(i);
            }
            x.undo();
            due("behind an undo()", x.count(UNDOABLE), 5);
        });
        test("8 to 17 the settings", () -> {
            CartPitches x = new CartPitches();
            int[] values = {11, 12, 3, 14, 15, 16, 17, 8, 13, 19};
            for (int s = 0; s < 10; s++) {
                x.set(s, values[s]);
            }
            for (int s = 0; s < 10; s++) {
                due("count(" + (8 + s) + ")", x.count(8 + s), values[s]);
            }
        });
        test("18 the carts that had a pitch on the last day that passed", () -> {
            CartPitches x = pairs(10);
            due("no day passed", x.count(HAD), 0);
            x.days(1);
            due("all", x.count(HAD), 10);
            wish(x, 0);
            due("as it was on that day", x.count(HAD), 10);
            x.days(1);
            due("all but one", x.count(HAD), 9);
            CartPitches y = kitchens(6, 6, 6, 1);
            y.days(1);
            due("not who found no kitchen", y.count(HAD), 2);
        });
        test("19 swaps that were done so far", () -> {
            CartPitches x = pairs(3);
            wish(x, 2);
            due("none", x.count(SWAPPED), 0);
            x.swap(0, 1);
            due("asked for, not done", x.count(SWAPPED), 0);
            x.swap(1, 2);
            x.days(1);
            due("one done, one not possible", x.count(SWAPPED), 1);
            x.swap(1, 0);
            x.days(2);
            due("done on all days", x.count(SWAPPED), 2);
        });
        test("BAD_VALUE if what is out of range", () -> {
            CartPitches x = pairs(1);
            int[] bad = {LEAST_INT, NONE, -1, 20, 21, MOST_INT};
            for (int what : bad) {
                due("count(" + what + ")", x.count(what), BAD_VALUE);
            }
        });
    }

    private static void pointsOn() {
        heading("Promise 17: pointsOn");
        test("Returns the points of a cart that would not have lapsed on a day, if none are given until then.", () -> {
            int[] lapses = {1, 2, 90, 200};
            for (int lapse : lapses) {
                CartPitches x = row(0);
                x.cart(0, 1);
                x.set(LAPSE, lapse);
                x.days(10);
                x.fine(0, 3);
                x.days(1);
                x.fine(0, 4);
                due("today with LAPSE " + lapse, x.pointsOn(0, 11), lapse == 1 ? 4 : 7);
                due("on the first ones' last day", x.pointsOn(0, Math.max(11, 9 + lapse)), lapse == 1 ? 4 : 7);
                due("on the others' last day", x.pointsOn(0, 10 + lapse), 4);
                due("a day later", x.pointsOn(0, 11 + lapse), 0);
            }
            CartPitches y = row(0);
            y.cart(0, 1);
            y.fine(0, 9);
            y.fine(0, 3);
            due("gone by a ban", y.pointsOn(0, 0), 0);
        });
        test("day: today to today + 400", () -> {
            CartPitches x = row(0);
            x.cart(0, 1);
            x.fine(0, 3);
            due("pointsOn(0, 0)", x.pointsOn(0, 0), 3);
            due("pointsOn(0, 400)", x.pointsOn(0, 400), 0);
            x.days(60);
            due("pointsOn(0, 60)", x.pointsOn(0, 60), 3);
            due("pointsOn(0, 460)", x.pointsOn(0, 460), 0);
        });
        test("NO_SUCH if there is no such cart", () -> dueNoSuchCart((x, cart) -> x.pointsOn(cart, x.count(TODAY))));
        test("BAD_VALUE if day is out of range", () -> {
            CartPitches x = row(0);
            x.cart(0, 1);
            due("pointsOn(0, -1)", x.pointsOn(0, -1), BAD_VALUE);
            due("pointsOn(0, 401)", x.pointsOn(0, 401), BAD_VALUE);
            x.days(60);
            int[] bad = {LEAST_INT, -1, 0, 59, 461, MOST_INT};
            for (int day : bad) {
                due("pointsOn(0, " + day + ")", x.pointsOn(0, day), BAD_VALUE);
            }
        });
    }

    public static void main(String[] args) {
        ofCart();
        money();
        ofPitch();
        count();
        pointsOn();
        end();
    }
}
