/** Each sentence under 'What it is' and 'Terms' that names a boundary case, with a test of its own. */
public final class TermsBoundaryTests extends Boundaries {

    private static void whatItIs() {
        heading("What it is");
        test("An object is used for at most 512 calls after it has been made", () -> {
            CartPitches x = new CartPitches();
            x.pitch(20000);
            x.cart(0, 1);
            x.wish(0, 0, NONE, NONE);
            x.set(VALID, 200);
            // 4 calls so far; then 46 times 10 calls of put() and one of carryOut(), with 15 times 60 days each.
            for (int i = 0; i < 46; i++) {
                put(x, "cA;d60;d60;d60;cA;d60;d60;d60;cA;d60;d60;d60;cA;d60;d60;d60;cA;d60;d60;d60");
                due("carryOut()", x.carryOut(), 20);
            }
            due("the 511th call", x.money(0, RENTS), 46 * 900 * 20000L);
            due("the 512th call", x.ofPitch(0, RENTS_PAID), 46 * 900 * 20000L);
        });
    }

    // ---- conventions

    private static void conventions() {
        heading("Terms: CONVENTIONS");
        test("it names its errors in the order in which they are checked, and the first one that applies is returned",
            TermsBoundaryTests::firstErrorThatApplies);
        test("A call that returns an error changes nothing.", TermsBoundaryTests::refusedCallsChangeNothing);
        test("NONE (-6) is not an error; it is returned only if no error applies.", () -> {
            CartPitches x = row(1);
            x.cart(0, 1);
            due("wouldHave(0)", x.wouldHave(0), NONE);
            due("wouldHave(1)", x.wouldHave(1), NO_SUCH);
            due("firstDay(0)", x.firstDay(0), NONE);
            due("firstDay(1)", x.firstDay(1), NO_SUCH);
            due("luckySeed(0, NONE)", x.luckySeed(0, NONE), NONE);
            due("luckySeed(1, NONE)", x.luckySeed(1, NONE), NO_SUCH);
            due("ifWished(0, 0)", x.ifWished(0, 0), 0);
            due("ifWished(0, 1)", x.ifWished(0, 1), NO_SUCH);
            due("ofPitch(0, HOLDER)", x.ofPitch(0, HOLDER), NONE);
            due("ofPitch(1, HOLDER)", x.ofPitch(1, HOLDER), NO_SUCH);
            due("ofCart(0, HAS)", x.ofCart(0, HAS), NONE);
            due("ofCart(1, HAS)", x.ofCart(1, HAS), NO_SUCH);
        });
        test("Everything is numbered from 0, in the order in which it was made; carts and pitches stay.", () -> {
            CartPitches x = new CartPitches();
            for (int i = 0; i < 10; i++) {
                due("pitch()", x.pitch(i), i);
            }
            for (int i = 0; i < 16; i++) {
                due("cart()", x.cart(i % 6, 1 + i % 5), i);
            }
            x.days(60);
            for (int i = 0; i < 10; i++) {
                due("rent of " + i, x.ofPitch(i, RENT), i);
            }
            for (int i = 0; i < 16; i++) {
                due("kind of " + i, x.ofCart(i, 0), i % 6);
                due("hours of " + i, x.ofCart(i, 1), 1 + i % 5);
            }
        });
        test("Today is the day 0 at first.", () -> due("count(TODAY)", new CartPitches().count(TODAY), 0));
    }

    private static void firstErrorThatApplies() {
        CartPitches x = fullRow();
        due("pitch(-1)", x.pitch(-1), BAD_VALUE);
        due("rent(10, -1)", x.rent(10, -1), NO_SUCH);
        due("cart(6, 1)", x.cart(6, 1), BAD_VALUE);
        due("cart(0, 0)", x.cart(0, 0), BAD_VALUE);
        due("wish(16, 10, 0, 0)", x.wish(16, 10, 0, 0), NO_SUCH);
        due("wish(-1, 0, 0, 0)", x.wish(-1, 0, 0, 0), NO_SUCH);
        due("fine(16, 0)", x.fine(16, 0), NO_SUCH);
        due("swap(16, 0)", x.swap(16, 0), NO_SUCH);
        due("swap(0, 16)", x.swap(0, 16), NO_SUCH);
        due("swap(3, 3)", x.swap(3, 3), NO_SUCH);
        due("pay(16, 0)", x.pay(16, 0), NO_SUCH);
        due("ofCart(16, 16)", x.ofCart(16, 16), NO_SUCH);
        due("money(16, 5)", x.money(16, 5), NO_SUCH);
        due("ofPitch(10, 4)", x.ofPitch(10, 4), NO_SUCH);
        due("pointsOn(16, -1)", x.pointsOn(16, -1), NO_SUCH);
        due("daysOf(16, 0)", x.daysOf(16, 0), NO_SUCH);
        due("put(0)", x.put(0), BAD_VALUE);
        due("put of a blank", x.put(packed(" ")), BAD_VALUE);
    }

    /** Every error of every method. */
    private static void refusedCallsChangeNothing() {
        Call[] ofBusyRow = {
            x -> x.set(-1, 8), x -> x.set(10, 8), x -> x.set(TICKETS, 0), x -> x.set(SWAP, 5001), x -> x.seed(-1), x -> x.seed(65537),
            x -> x.pitch(-1), x -> x.pitch(20001), x -> x.rent(4, 5), x -> x.rent(0, -1), x -> x.rent(0, 20001),
            x -> x.cart(-1, 1), x -> x.cart(6, 1), x -> x.cart(0, 0), x -> x.cart(0, 7),
            x -> x.wish(6, 0, 1, 2), x -> x.wish(0, 4, NONE, NONE), x -> x.wish(0, 1, 4, NONE), x -> x.wish(0, 1, NONE, 4),
            x -> x.wish(0, 1, 1, 2), x -> x.wish(0, 1, 2, 1), x -> x.wish(0, 1, 2, 2), x -> x.fine(6, 1), x -> x.fine(0, 0), x -> x.fine(0, 10),
            x -> x.check(6), x -> x.check(2), x -> x.swap(6, 0), x -> x.swap(0, 6), x -> x.swap(0, 0),
            x -> x.pay(6, 1), x -> x.pay(0, 0), x -> x.pay(0, 1000001), x -> x.days(0), x -> x.days(61),
            x -> x.ofCart(6, 0), x -> x.ofCart(0, 16), x -> x.money(6, 0), x -> x.money(0, 5), x -> x.ofPitch(4, 0), x -> x.ofPitch(0, 4),
            x -> x.count(-1), x -> x.count(20), x -> x.pointsOn(6, 2), x -> x.pointsOn(0, 1), x -> x.pointsOn(0, 403),
            x -> x.wouldHave(6), x -> x.ifWished(6, 0), x -> x.ifWished(0, 4), x -> x.firstDay(6), x -> x.daysOf(6, 1), x -> x.daysOf(0, 0),
            x -> x.luckySeed(6, 0), x -> x.luckySeed(0, 4), x -> x.whyNot(6, 0), x -> x.whyNot(0, 4),
            x -> x.put(0), x -> x.put(packed("cA") << 8), x -> x.put(packed("c A")), x -> x.save(-1), x -> x.save(2), x -> x.restore(-1), x -> x.restore(2)};
        Call[] ofFullRow = {
            x -> x.pitch(0), x -> x.cart(0, 1), x -> x.check(15), x -> x.swap(0, 1), x -> x.put(packed("A")), x -> x.restore(0)};
        for (int i = 0; i < ofBusyRow.length; i++) {
            changesNothing("refused call " + i + " on the busy row", ofBusyRow[i], busyRow(), busyRow());
        }
        for (int i = 0; i < ofFullRow.length; i++) {
            changesNothing("refused call " + i + " on the full row", ofFullRow[i], fullRow(), fullRow());
        }
        changesNothing("undo() of none", x -> x.undo(), new CartPitches(), new CartPitches());
        changesNothing("restore(1) of none", x -> x.restore(1), new CartPitches(), new CartPitches());
        changesNothing("carryOut() of a fault", x -> x.carryOut(), withFault(), withFault());
    }

    private static CartPitches withFault() {
        CartPitches x = busyRow();
        put(x, ";fA");
        return x;
    }

    private static void changesNothing(String call, Call refused, CartPitches x, CartPitches twin) {
        due(call + " is refused", refused.on(x) < 0 ? 1 : 0, 1);
        dueAll(call, inside(x), inside(twin));
    }

    // ---- settings

    private static void settings() {
        heading("Terms: Settings");
        range("TICKETS (1 to 20; 8)", TICKETS, 1, 20, 8);
        range("VALID (1 to 200; 60), in days", VALID, 1, 200, 60);
        range("CHECKS (1 to 8; 2), a day", CHECKS, 1, 8, 2);
        range("LIMIT (3 to 30; 12), points", LIMIT, 3, 30, 12);
        range("BAN (1 to 60; 14)", BAN, 1, 60, 14);
        range("LAPSE (1 to 200; 90), in days", LAPSE, 1, 200, 90);
        range("FINE (0 to 10000; 500), for a point", FINE, 0, 10000, 500);
        range("ABSENT (0 to 9; 2), points", ABSENT, 0, 9, 2);
        range("OPEN (6 to 14; 11), an hour", OPEN, 6, 14, 11);
        range("SWAP (0 to 5000; 200)", SWAP, 0, 5000, 200);
    }

    private static void range(String sentence, int setting, int least, int most, int first) {
        test(sentence, () -> {
            CartPitches x = new CartPitches();
            due("the first value", x.count(SETTING + setting), first);
            due("set() below", x.set(setting, least - 1), BAD_VALUE);
            due("set() above", x.set(setting, most + 1), BAD_VALUE);
            due("set() far below", x.set(setting, LEAST_INT), BAD_VALUE);
            due("set() far above", x.set(setting, MOST_INT), BAD_VALUE);
            due("the value as it was", x.count(SETTING + setting), first);
            due("set() of the least", x.set(setting, least), first);
            due("the least", x.count(SETTING + setting), least);
            due("set() of the most", x.set(setting, most), least);
            due("the most", x.count(SETTING + setting), most);
        });
    }

    // ---- pitches, carts

    private static void pitchesAndCarts() {
        heading("Terms: Pitches, carts");
        test("There are up to 10 pitches in a row", () -> {
            CartPitches x = row(9);
            due("the tenth", x.pitch(5), 9);
            due("the eleventh", x.pitch(5), TOO_MANY);
            due("pitches", x.count(PITCHES), 10);
        });
        test("a pitch has a rent (0 to 20000)", () -> {
            CartPitches x = new CartPitches();
            due("pitch(0)", x.pitch(0), 0);
            due("pitch(20000)", x.pitch(20000), 1);
            due("rent(0, 20000)", x.rent(0, 20000), 0);
            due("rent(1, 0)", x.rent(1, 0), 20000);
            due("pitch(-1)", x.pitch(-1), BAD_VALUE);
            due("pitch(20001)", x.pitch(20001), BAD_VALUE);
            due("rent(0, -1)", x.rent(0, -1), BAD_VALUE);
            due("rent(0, 20001)", x.rent(0, 20001), BAD_VALUE);
        });
        test("Pitches whose numbers differ by 1 are side by side.", () -> {
            int[][] wishes = {{0, 1, 1}, {1, 0, 1}, {8, 9, 1}, {9, 8, 1}, {4, 5, 1}, {0, 2, 2}, {9, 7, 2}, {0, 9, 2}, {9, 0, 2}, {4, 6, 2}};
            for (int[] w : wishes) {
                CartPitches x = row(10);
                cart(x, 3, w[0]);
                cart(x, 3, w[1]);
                x.days(1);
                due("carts with a pitch of " + w[0] + " and " + w[1], x.count(HAD), w[2]);
            }
        });
        test("There are up to 16 carts.", () -> {
            CartPitches x = row(1);
            for (int i = 0; i < 15; i++) {
                x.cart(0, 1);
            }
            due("the sixteenth", x.cart(0, 1), 15);
            due("the seventeenth", x.cart(0, 1), TOO_MANY);
            due("carts", x.count(CARTS), 16);
        });
        test("A cart has a kind (0 to 5)", () -> {
            CartPitches x = new CartPitches();
            due("cart(0, 1)", x.cart(0, 1), 0);
            due("cart(5, 1)", x.cart(5, 1), 1);
            due("cart(-1, 1)", x.cart(-1, 1), BAD_VALUE);
            due("cart(6, 1)", x.cart(6, 1), BAD_VALUE);
            due("kind", x.ofCart(0, 0), 0);
            due("kind", x.ofCart(1, 0), 5);
        });
        test("hours that it needs in a kitchen (1 to 6)", () -> {
            CartPitches x = new CartPitches();
            due("cart(0, 1)", x.cart(0, 1), 0);
            due("cart(0, 6)", x.cart(0, 6), 1);
            due("cart(0, 0)", x.cart(0, 0), BAD_VALUE);
            due("cart(0, 7)", x.cart(0, 7), BAD_VALUE);
            due("hours", x.ofCart(0, 1), 1);
            due("hours", x.ofCart(1, 1), 6);
        });
        test("a balance of money (0 at first; it can be below 0)", () -> {
            CartPitches x = pairs(1);
            due("balance", x.money(0, BALANCE), 0);
            x.days(1);
            due("balance", x.money(0, BALANCE), -100);
        });
        test("up to 3 wishes (pitches, the first one first)", () -> {
            CartPitches x = row(10);
            x.cart(0, 1);
            due("wish(0, 9, 0, 5)", x.wish(0, 9, 0, 5), 3);
            due("first", x.ofCart(0, 3), 9);
            due("second", x.ofCart(0, 4), 0);
            due("third", x.ofCart(0, 5), 5);
            due("the first one is the first to be got", x.wouldHave(0), 9);
        });
        test("losses (0 at first)", () -> {
            CartPitches x = row(1);
            x.cart(0, 1);
            due("losses", x.ofCart(0, LOSSES), 0);
        });
        test("a check that is valid up to a day (that day included; when the cart is made, today + VALID)", () -> {
            CartPitches x = row(2);
            x.set(VALID, 1);
            cart(x, 0, 0);
            due("made on the day 0", x.ofCart(0, VALID_UP_TO), 1);
            x.days(1);
            due("on the day up to which it is valid", x.wouldHave(0), 0);
            x.days(1);
            due("had it on that day", x.ofCart(0, HAS), 0);
            due("a day later", x.wouldHave(0), NONE);
            x.set(VALID, 200);
            cart(x, 1, 1);
            due("made on the day 2", x.ofCart(1, VALID_UP_TO), 202);
            due("that of the old one", x.ofCart(0, VALID_UP_TO), 1);
        });
        test("a day up to which it is banned (that day included; none at first)", () -> {
            CartPitches x = pairs(1);
            due("at first", x.ofCart(0, BANNED_UP_TO), NONE);
            due("at first", x.wouldHave(0), 0);
            x.set(LIMIT, 3);
            x.set(BAN, 1);
            x.fine(0, 3);
            due("banned", x.ofCart(0, BANNED_UP_TO), 1);
            due("on the day of the ban", x.wouldHave(0), NONE);
            x.days(1);
            due("on the day up to which it is banned", x.wouldHave(0), NONE);
            x.days(1);
            due("a day later", x.wouldHave(0), 0);
        });
        points();
    }

    private static void points() {
        test("A cart has as many points as were given to it in the last LAPSE days (on days later than today - LAPSE", () -> {
            int[] lapses = {1, 2, 60, 200};
            for (int lapse : lapses) {
                CartPitches x = row(1);
                x.cart(0, 1);
                x.set(LAPSE, lapse);
                x.days(2);
                x.fine(0, 5);
                pass(x, lapse - 1);
                due("on the last day of " + lapse, x.ofCart(0, POINTS), 5);
                due("pointsOn() of that day", x.pointsOn(0, x.count(TODAY)), 5);
                x.days(1);
                due("a day later", x.ofCart(0, POINTS), 0);
                due("given now", x.fine(0, 2), 2);
            }
        });
        test("as LAPSE is when they are asked for)", () -> {
            CartPitches x = row(1);
            x.cart(0, 1);
            x.set(LAPSE, 1);
            x.fine(0, 5);
            pass(x, 199);
            due("lapsed", x.ofCart(0, POINTS), 0);
            x.set(LAPSE, 199);
            due("lapsed by a day", x.ofCart(0, POINTS), 0);
            x.set(LAPSE, 200);
            due("not lapsed now", x.ofCart(0, POINTS), 5);
            due("fine() with those that have not lapsed", x.fine(0, 1), 6);
            x.set(LAPSE, 1);
            due("lapsed again", x.ofCart(0, POINTS), 1);
            x.set(LAPSE, 200);
            x.days(1);
            due("lapsed for every LAPSE", x.ofCart(0, POINTS), 1);
        });
        test("Points are kept with the day on which they were given.", () -> {
            CartPitches x = row(0);
            x.cart(0, 1);
            x.set(LIMIT, 30);
            x.set(LAPSE, 3);
            for (int day = 0; day < 5; day++) {
                x.fine(0, 1 + day);
                x.fine(0, 1);
                x.days(1);
            }
            // 2, 3, 4, 5 and 6 points on the days 0 to 4.
            due("of the days 3 and 4", x.ofCart(0, POINTS), 11);
            due("of the day 4", x.pointsOn(0, 6), 6);
            due("of none", x.pointsOn(0, 7), 0);
            x.set(LAPSE, 4);
            due("of the days 2 to 4", x.ofCart(0, POINTS), 15);
            x.set(LAPSE, 6);
            due("of all days", x.ofCart(0, POINTS), 20);
        });
        test("since it was banned last", () -> {
            CartPitches x = row(1);
            x.cart(0, 1);
            x.set(LAPSE, 200);
            x.fine(0, 5);
            x.days(1);
            due("the ban", x.fine(0, 7), 0);
            due("points on the day of the ban", x.ofCart(0, POINTS), 0);
            due("given on the same day, behind the ban", x.fine(0, 4), 4);
            x.days(1);
            due("points a day later", x.ofCart(0, POINTS), 4);
            due("the second ban", x.fine(0, 8), 0);
            due("points since the second ban", x.fine(0, 1), 1);
        });
        test("it pays FINE for each of them", () -> {
            CartPitches x = row(1);
            x.cart(0, 1);
            x.set(FINE, 0);
            x.fine(0, 9);
            due("fines of 0", x.money(0, FINES), 0);
            x.set(FINE, 10000);
            x.fine(0, 1);
            due("a fine for one", x.money(0, FINES), 10000);
            due("the ban", x.fine(0, 9), 0);
            due("fines for those that bring the ban too", x.money(0, FINES), 100000);
            due("balance", x.money(0, BALANCE), -100000);
        });
        test("if it has LIMIT points or more then", () -> {
            int[] limits = {3, 12, 30};
            for (int limit : limits) {
                for (int given = limit - 1; given <= limit + 1; given++) {
                    CartPitches x = row(1);
                    x.cart(0, 1);
                    x.set(LIMIT, limit);
                    int last = 0;
                    for (int left = given; left > 0; left -= Math.min(left, 8)) {
                        last = x.fine(0, Math.min(left, 8));
                    }
                    due("the last fine() of " + given + " with LIMIT " + limit, last, given < limit ? given : 0);
                    due("banned by " + given + " with LIMIT " + limit, x.ofCart(0, BANNED_UP_TO), given < limit ? NONE : 14);
                }
            }
        });
        test("it is banned up to today + BAN, and all its points are gone", () -> {
            int[] bans = {1, 14, 60};
            for (int ban : bans) {
                CartPitches x = row(1);
                x.cart(0, 1);
                x.set(BAN, ban);
                x.fine(0, 9);
                x.days(5);
                due("the ban", x.fine(0, 3), 0);
                due("banned up to", x.ofCart(0, BANNED_UP_TO), 5 + ban);
                due("points", x.ofCart(0, POINTS), 0);
                due("points later", x.pointsOn(0, 6), 0);
                x.days(1);
                x.fine(0, 9);
                due("not banned again by new points", x.ofCart(0, BANNED_UP_TO), 5 + ban);
                x.fine(0, 9);
                due("banned again, while it is banned", x.ofCart(0, BANNED_UP_TO), 6 + ban);
            }
        });
    }

    private static void pass(CartPitches x, int days) {
        for (int left = days; left > 0; left -= Math.min(left, 60)) {
            x.days(Math.min(left, 60));
        }
    }

    // ---- a day

    private static void checks() {
        heading("Terms: A day, 1. Checks");
        test("Of the carts that wait for a check, CHECKS are checked", () -> {
            int[][] cases = {{0, 1}, {0, 8}, {1, 1}, {1, 2}, {2, 2}, {3, 2}, {7, 8}, {8, 8}, {9, 8}, {16, 8}, {16, 1}};
            for (int[] waitingAndChecks : cases) {
                CartPitches x = row(0);
                for (int i = 0; i < 16; i++) {
                    x.cart(0, 1);
                }
                for (int i = 0; i < waitingAndChecks[0]; i++) {
                    x.check(i);
                }
                x.set(CHECKS, waitingAndChecks[1]);
                x.days(1);
                due(waitingAndChecks[0] + " waited, CHECKS is " + waitingAndChecks[1], x.count(WAITING), Math.max(0, waitingAndChecks[0] - waitingAndChecks[1]));
            }
        });
        test("those whose check is valid up to the earliest day first", () -> {
            CartPitches x = row(0);
            int[] valid = {12, 11, 10, 11};
            for (int i = 0; i < 4; i++) {
                x.set(VALID, valid[i]);
                x.cart(0, 1);
                x.check(i);
            }
            x.set(CHECKS, 1);
            int[] order = {2, 1, 3, 0};
            for (int cart : order) {
                due("waits", x.ofCart(cart, WAITS), 1);
                x.days(1);
                due("waits no more", x.ofCart(cart, WAITS), 0);
            }
        });
        test("of several the one with the lowest number", () -> {
            CartPitches x = row(0);
            for (int i = 0; i < 16; i++) {
                x.cart(0, 1);
            }
            for (int i = 15; i >= 0; i--) {
                x.check(i);
            }
            x.set(CHECKS, 1);
            for (int i = 0; i < 16; i++) {
                x.days(1);
                due("waits no more", x.ofCart(i, WAITS), 0);
                due("others that wait", x.count(WAITING), 15 - i);
            }
        });
        test("Their check is valid up to today + VALID, and they wait no more.", () -> {
            int[] valid = {1, 60, 200};
            for (int v : valid) {
                CartPitches x = row(0);
                x.cart(0, 1);
                x.set(VALID, v);
                x.days(5);
                x.check(0);
                x.days(1);
                due("valid up to, also if that is earlier than before", x.ofCart(0, VALID_UP_TO), 5 + v);
                due("waits", x.ofCart(0, WAITS), 0);
                x.days(1);
                due("only one check for one call", x.ofCart(0, VALID_UP_TO), 5 + v);
            }
        });
    }

    private static void lots() {
        heading("Terms: A day, 2. Lots");
        test("Those take part that have wishes, whose check is valid today, and that are not banned today.", () -> {
            CartPitches x = row(4);
            x.set(LIMIT, 3);
            cart(x, 0);
            x.set(VALID, 1);
            cart(x, 1, 1);
            x.set(VALID, 60);
            cart(x, 2, 2);
            cart(x, 3, 3);
            x.days(2);
            x.fine(2, 3);
            x.days(1);
            due("without wishes", x.ofCart(0, PLACE), NONE);
            due("without a valid check", x.ofCart(1, PLACE), NONE);
            due("banned", x.ofCart(2, PLACE), NONE);
            due("takes part", x.ofCart(3, PLACE), 0);
            due("carts that had a pitch", x.count(HAD), 1);
            x.wish(3, NONE, NONE, NONE);
            int before = x.count(X);
            x.days(1);
            due("none takes part: x is as it was", x.count(X), before);
            due("none had a pitch", x.count(HAD), 0);
        });
        test("Each has 1 + its losses tickets, but at most TICKETS.", TermsBoundaryTests::tickets);
        test("As long as some of them was not drawn: the number x (the seed at first) becomes (75 * x + 74) left over by 65537", () -> {
            // 65536 stands for -1 and 65535 for -2 when 65537 is left out; 75 * 45438 + 74 = 52 * 65537; 75 * 873 + 74 = 65549.
            int[][] steps = {{0, 74}, {1, 149}, {872, 65474}, {873, 12}, {45438, 0}, {65535, 65461}, {65536, 65536}};
            for (int[] step : steps) {
                CartPitches x = pairs(1);
                x.seed(step[0]);
                x.days(1);
                due("x behind " + step[0], x.count(X), step[1]);
            }
            CartPitches x = pairs(3);
            x.days(1);
            due("a step for each that took part", x.count(X), 57305);
        });
        test("x left over by all tickets of those who were not drawn tells the ticket", TermsBoundaryTests::ticketsOfThoseNotDrawn);
        test("the tickets are counted from 0, cart by cart in ascending order; its cart is drawn", () -> {
            // 3 tickets of the first cart, 1 of the second, 2 of the third: they lost 2, 0 and 1 days.
            CartPitches x = row(1);
            cart(x, 0, 0);
            cart(x, 1);
            cart(x, 2);
            cart(x, 3, 0);
            x.seed(seedForOrder(3, 0));
            x.days(1);
            x.wish(2, 0, NONE, NONE);
            x.seed(seedFor(4, 3));
            x.days(1);
            x.wish(3, NONE, NONE, NONE);
            x.wish(1, 0, NONE, NONE);
            int[] losses = {2, 0, 1};
            int[] drawn = {0, 0, 0, 1, 2, 2};
            for (int i = 0; i < 3; i++) {
                due("losses of " + i, x.ofCart(i, LOSSES), losses[i]);
            }
            for (int ticket = 0; ticket < 6; ticket++) {
                x.seed(seedFor(6, ticket));
                for (int i = 0; i < 3; i++) {
                    due("the cart " + i + " with the ticket " + ticket, x.wouldHave(i), i == drawn[ticket] ? 0 : NONE);
                }
            }
        });
        test("It gets the first of its wishes that is free and not side by side with a pitch that a cart of the same kind has got.", () -> {
            CartPitches x = row(10);
            cart(x, 0, 0);
            cart(x, 1, 9);
            cart(x, 0, 0, 1, 9);
            cart(x, 1, 8, 0, 7);
            cart(x, 0, 8, 1, 2);
            x.seed(seedForOrder(0, 1, 2, 3, 4));
            x.days(1);
            due("taken, beside its kind, taken", x.ofCart(2, HAS), NONE);
            due("beside its kind, taken, the last wish", x.ofCart(3, HAS), 7);
            due("the first wish, between another kind", x.ofCart(4, HAS), 8);
        });
        test("If there is none, it gets no pitch.", () -> {
            CartPitches x = row(2);
            cart(x, 0, 0);
            cart(x, 1, 0);
            cart(x, 0, 1, 0);
            x.seed(seedForOrder(0, 1, 2));
            x.days(1);
            due("the first", x.ofCart(0, HAS), 0);
            due("its only wish is taken", x.ofCart(1, HAS), NONE);
            due("beside its kind, and taken", x.ofCart(2, HAS), NONE);
            due("nobody has the other pitch", x.ofPitch(1, HOLDER), NONE);
        });
    }

    private static void tickets() {
        int[] limits = {1, 2, 20};
        for (int limit : limits) {
            CartPitches x = row(1);
            cart(x, 0, 0);
            cart(x, 1, 0);
            x.set(TICKETS, limit);
            for (int losses = 0; losses <= limit; losses++) {
                int tickets = Math.min(1 + losses, limit);
                due("losses", x.ofCart(0, LOSSES), losses);
                for (int seed = 0; losses >= limit - 2 && seed < 50; seed++) {
                    x.seed(seed);
                    int first = nextX(seed) % (tickets + 1) < tickets ? 0 : 1;
                    due("the first one, with " + losses + " losses, TICKETS " + limit + " and the seed " + seed, x.wouldHave(0), first == 0 ? 0 : NONE);
                }
                x.seed(seedFor(tickets + 1, tickets));
                x.days(1);
            }
        }
    }

    private static void ticketsOfThoseNotDrawn() {
        CartPitches x = row(1);
        cart(x, 0, 0);
        cart(x, 1, 0);
        x.seed(seedForOrder(0, 1));
        x.days(1);
        cart(x, 2, 0);
        // The first has 1 ticket, the second 2, the third 1: they are of 4, then of those who are left.
        for (int seed = 0; seed < 60; seed++) {
            x.seed(seed);
            int[] tickets = {1, 2, 1};
            int[] places = new int[3];
            int now = seed;
            int all = 4;
            for (int place = 0; place < 3; place++) {
                now = nextX(now);
                int ticket = now % all;
                int cart = 0;
                while (ticket >= tickets[cart]) {
                    ticket -= tickets[cart];
                    cart++;
                }
                all -= tickets[cart];
                tickets[cart] = 0;
                places[cart] = place;
            }
            x.days(1);
            for (int cart = 0; cart < 3; cart++) {
                due("place of " + cart + " with the seed " + seed, x.ofCart(cart, PLACE), places[cart]);
            }
            x.undo();
        }
    }

    private static void kitchens() {
        heading("Terms: A day, 3. Kitchens");
        test("There are 2 kitchens.", () -> hours(kitchens(6, 6, 6, 1), 0, 0, NONE));
        test("In the order in which they were drawn, those who got a pitch take their hours", () -> {
            int[][] orders = {{0, 1, 2}, {0, 2, 1}, {1, 0, 2}, {1, 2, 0}, {2, 0, 1}, {2, 1, 0}};
            for (int[] order : orders) {
                CartPitches x = kitchens(6, 6, 6, 6);
                cart(x, 4);
                x.seed(seedForOrder(order));
                x.days(1);
                due("drawn first", x.ofCart(order[0], HOUR), 0);
                due("drawn second", x.ofCart(order[1], HOUR), 0);
                due("drawn last", x.ofCart(order[2], HOUR), NONE);
                due("not drawn", x.ofCart(3, HOUR), NONE);
            }
            // Who got no pitch takes no hours.
            CartPitches y = row(3);
            int[] pitches = {0, 0, 1, 2};
            for (int i = 0; i < 4; i++) {
                wish(y, y.cart(i, 6), pitches[i]);
            }
            y.set(OPEN, 6);
            y.seed(seedForOrder(0, 1, 2, 3));
            y.days(1);
            due("drawn second, without a pitch", y.ofCart(1, HOUR), NONE);
            due("drawn third", y.ofCart(2, HOUR), 0);
            due("drawn last", y.ofCart(3, HOUR), NONE);
        });
        test("as many as they need, one behind the other, in one kitchen, all free", () -> {
            hours(kitchens(9, 6, 6, 4, 3, 3, 1), 0, 0, NONE, 6, 6, NONE);
            hours(kitchens(14, 5, 6, 5, 5, 4, 3, 3), 0, 0, 5, 6, 10, 11, NONE);
        });
        test("the last one ending at OPEN or earlier", () -> {
            hours(kitchens(6, 6, 6), 0, 0);
            hours(kitchens(6, 5, 5, 2, 1, 1), 0, 0, NONE, 5, 5);
            hours(kitchens(14, 6, 6, 6, 6, 3, 2), 0, 0, 6, 6, NONE, 12);
            hours(kitchens(11, 6, 6, 6, 5, 5), 0, 0, NONE, 6, 6);
        });
        test("the earliest beginning that there is in either kitchen (from the hour 0 on), in the lower one if it is in both", () -> {
            hours(kitchens(11, 5, 2, 1, 4, 1, 2), 0, 0, 2, 3, 5, 6);
            hours(kitchens(11, 2, 5, 1, 4, 1, 2), 0, 0, 2, 3, 5, 6);
            hours(kitchens(11, 2, 2, 2, 2, 2, 2), 0, 0, 2, 2, 4, 4);
        });
        test("Who finds none loses the pitch", () -> {
            CartPitches x = kitchens(6, 6, 5, 2, 1);
            x.days(1);
            due("finds none", x.ofCart(2, HAS), NONE);
            due("nobody's", x.ofPitch(2, HOLDER), NONE);
            due("no rent", x.money(2, RENTS), 0);
            due("no day", x.ofCart(2, DAYS), 0);
            due("finds the last hour", x.ofCart(3, HAS), 3);
            due("hour", x.ofCart(3, HOUR), 5);
        });
        test("and is given ABSENT points (none if ABSENT is 0)", TermsBoundaryTests::absentPoints);
    }

    private static void hours(CartPitches x, int... due) {
        x.days(1);
        for (int i = 0; i < due.length; i++) {
            due("place of " + i, x.ofCart(i, PLACE), i);
            due("hour of " + i, x.ofCart(i, HOUR), due[i]);
            due("pitch of " + i, x.ofCart(i, HAS), due[i] == NONE ? NONE : i);
        }
    }

    private static void absentPoints() {
        CartPitches x = kitchens(6, 6, 6, 1);
        x.set(ABSENT, 9);
        x.days(1);
        due("points", x.ofCart(2, POINTS), 9);
        due("points of who found a kitchen", x.ofCart(1, POINTS), 0);
        due("fines", x.money(2, FINES), 4500);
        x = kitchens(6, 6, 6, 1);
        x.set(ABSENT, 1);
        x.set(LIMIT, 3);
        x.fine(2, 2);
        x.days(1);
        due("banned by one point", x.ofCart(2, BANNED_UP_TO), 14);
        due("its points are gone", x.ofCart(2, POINTS), 0);
        // Points that stand at LIMIT when none are given bring no ban.
        x = kitchens(6, 6, 6, 1);
        x.set(ABSENT, 0);
        x.fine(2, 3);
        x.set(LIMIT, 3);
        x.days(1);
        due("loses the pitch", x.ofCart(2, REASON), 5);
        due("points as they were", x.ofCart(2, POINTS), 3);
        due("fines as they were", x.money(2, FINES), 1500);
        due("not banned", x.ofCart(2, BANNED_UP_TO), NONE);
    }

    private static void swaps() {
        heading("Terms: A day, 4. Swaps");
        test("In the order in which they were asked for", () -> {
            CartPitches x = pairs(3);
            x.swap(0, 1);
            x.swap(1, 2);
            x.days(1);
            holders(x, 2, 0, 1);
            x.swap(1, 2);
            x.swap(0, 1);
            x.days(1);
            holders(x, 1, 2, 0);
        });
        test("two carts that have pitches now exchange them", () -> {
            CartPitches x = row(4);
            cart(x, 0, 0);
            cart(x, 1);
            cart(x, 2);
            x.swap(0, 1);
            x.swap(1, 0);
            x.swap(1, 2);
            x.days(1);
            holders(x, 0, NONE, NONE, NONE);
            due("done", x.count(SWAPPED), 0);
            // Who lost the pitch for want of a kitchen has none now.
            CartPitches y = kitchens(6, 6, 6, 1);
            y.swap(2, 0);
            y.swap(0, 1);
            y.days(1);
            holders(y, 1, 0, NONE);
            due("done", y.count(SWAPPED), 1);
        });
        test("no cart of its kind has a pitch side by side with it (behind the exchange)", TermsBoundaryTests::swapsBesideTheirKind);
        test("Both pay SWAP.", () -> {
            int[] prices = {0, 1, 5000};
            for (int price : prices) {
                CartPitches x = pairs(3);
                x.set(SWAP, price);
                x.swap(0, 1);
                x.days(1);
                due("the first pays", x.money(0, FOR_SWAPS), price);
                due("the second pays", x.money(1, FOR_SWAPS), price);
                due("the third does not", x.money(2, FOR_SWAPS), 0);
                due("balance", x.money(0, BALANCE), -200 - price);
            }
        });
        test("All swaps that were asked for are gone then.", () -> {
            CartPitches x = pairs(2);
            x.cart(0, 1);
            for (int i = 0; i < 7; i++) {
                x.swap(0, 2);
            }
            x.swap(0, 1);
            x.days(1);
            due("done, behind 7 that were not possible", x.count(SWAPPED), 1);
            due("asked for", x.count(SWAPS), 0);
            wish(x, 2, 0);
            wish(x, 0);
            x.days(1);
            due("none done on the next day", x.count(SWAPPED), 1);
            // Eight that are possible are all done, each of them paid.
            CartPitches y = pairs(2);
            for (int i = 0; i < 8; i++) {
                y.swap(0, 1);
            }
            y.days(1);
            due("done", y.count(SWAPPED), 8);
            due("paid", y.money(1, FOR_SWAPS), 1600);
            holders(y, 0, 1);
        });
    }

    private static void swapsBesideTheirKind() {
        // Kinds side by side at the ends of the row: each row of kinds, the two that swap, and whether they can.
        int[][][] cases = {
            {{0, 1, 2, 0}, {0, 1}, {1}}, {{0, 1, 2, 0}, {0, 2}, {0}}, {{0, 1, 2, 0}, {1, 3}, {0}}, {{0, 1, 2, 0}, {2, 3}, {1}},
            {{0, 1, 0, 1}, {0, 1}, {0}}, {{0, 1, 0, 1}, {1, 2}, {0}}, {{0, 1, 0, 1}, {0, 2}, {1}}, {{0, 1, 0, 1}, {0, 3}, {0}},
            {{0, 1}, {0, 1}, {1}}, {{0, 1, 2, 3, 4, 5, 1, 2, 3, 0}, {0, 9}, {1}}, {{0, 1, 2, 3, 4, 5, 1, 2, 0, 3}, {0, 9}, {0}},
            {{0, 1, 2, 3, 4, 5, 1, 2, 0, 3}, {0, 8}, {1}}, {{3, 0, 2, 1, 4, 5, 1, 2, 4, 0}, {9, 0}, {0}}};
        for (int[][] told : cases) {
            for (int turned = 0; turned < 2; turned++) {
                CartPitches x = row(told[0].length);
                for (int i = 0; i < told[0].length; i++) {
                    cart(x, told[0][i], i);
                }
                x.swap(told[1][turned], told[1][1 - turned]);
                x.days(1);
                due("carts with pitches", x.count(HAD), told[0].length);
                due("swaps of " + told[1][0] + " and " + told[1][1] + " among " + told[0].length, x.count(SWAPPED), told[2][0]);
                due("who has the pitch of the first", x.ofPitch(told[1][0], HOLDER), told[2][0] == 1 ? told[1][1] : told[1][0]);
                due("paid", x.money(told[1][0], FOR_SWAPS), 200 * told[2][0]);
            }
        }
    }

    private static void holders(CartPitches x, int... due) {
        for (int i = 0; i < due.length; i++) {
            due("holder of " + i, x.ofPitch(i, HOLDER), due[i]);
        }
    }

    private static void tradeAndEnd() {
        heading("Terms: A day, 5. Trade, 6.");
        test("Each cart that has a pitch pays its rent; this is a day of the cart and of the pitch, and its losses are 0.", () -> {
            CartPitches x = row(2);
            cart(x, 0, 0);
            cart(x, 1, 0);
            x.rent(0, 0);
            x.seed(seedForOrder(1, 0));
            x.days(1);
            due("losses", x.ofCart(0, LOSSES), 1);
            x.seed(seedFor(3, 0));
            x.days(1);
            due("losses are 0", x.ofCart(0, LOSSES), 0);
            due("a day also for a rent of 0", x.ofCart(0, DAYS), 1);
            due("days of the pitch", x.ofPitch(0, TAKEN), 2);
            due("rent of 0", x.money(0, RENTS), 0);
            x.rent(0, 20000);
            wish(x, 1);
            x.days(1);
            due("the rent of the pitch", x.money(0, RENTS), 20000);
            due("rents of the pitch", x.ofPitch(0, RENTS_PAID), 20000);
            due("days of the pitch that nobody had", x.ofPitch(1, TAKEN), 0);
            x.rent(1, 7);
            wish(x, 0);
            wish(x, 1, 0);
            cart(x, 2, 1);
            x.swap(1, 2);
            x.days(1);
            due("the rent of the pitch that it has by a swap", x.money(1, RENTS), 7);
            due("rents of that pitch", x.ofPitch(1, RENTS_PAID), 7);
        });
        test("The losses of those who took part and have no pitch increase by 1.", () -> {
            CartPitches x = kitchens(6, 6, 6, 1);
            cart(x, 5, 0);
            cart(x, 5);
            x.seed(seedForOrder(0, 1, 2, 3));
            x.days(1);
            due("lost for want of a kitchen", x.ofCart(2, LOSSES), 1);
            due("got none by the lots", x.ofCart(3, LOSSES), 1);
            due("has one", x.ofCart(0, LOSSES), 0);
            due("has no wishes", x.ofCart(4, LOSSES), 0);
            // Who does not take part keeps the losses.
            x.set(LIMIT, 3);
            x.fine(3, 3);
            x.days(1);
            due("banned", x.ofCart(3, LOSSES), 1);
        });
        test("Today is one day later.", () -> {
            CartPitches x = row(0);
            due("days(1)", x.days(1), 1);
            due("days(1)", x.days(1), 2);
            due("count(TODAY)", x.count(TODAY), 2);
        });
    }

    // ---- reasons

    private static void reasons() {
        heading("Terms: Reasons");
        test("0 it had one, or no day passed since it was made", () -> {
            CartPitches x = pairs(1);
            cart(x, 0);
            due("before the first day", x.ofCart(1, REASON), 0);
            x.days(1);
            due("had one", x.ofCart(0, REASON), 0);
            due("had none", x.ofCart(1, REASON), 1);
            x.cart(0, 1);
            due("made behind the last day", x.ofCart(2, REASON), 0);
            x.days(1);
            due("a day passed", x.ofCart(2, REASON), 1);
        });
        test("otherwise the first of these that applies", () -> {
            // Wishes, a valid check, not banned: what is missing, and the reason.
            int[][] cases = {{0, 0, 0, 1}, {0, 0, 1, 1}, {0, 1, 0, 1}, {0, 1, 1, 1}, {1, 0, 0, 2}, {1, 0, 1, 2}, {1, 1, 0, 3}, {1, 1, 1, 0}};
            for (int[] told : cases) {
                CartPitches x = row(1);
                x.set(VALID, told[1] == 1 ? 2 : 1);
                x.set(LIMIT, 3);
                cart(x, 0, 0);
                x.days(2);
                if (told[0] == 0) {
                    wish(x, 0);
                }
                if (told[2] == 0) {
                    x.fine(0, 3);
                }
                x.days(1);
                due("reason of " + told[0] + told[1] + told[2], x.ofCart(0, REASON), told[3]);
            }
        });
        test("1 it had no wishes", () -> {
            CartPitches x = pairs(1);
            cart(x, 1, 0);
            x.wish(1, NONE, 0, 0);
            x.days(1);
            due("reason", x.ofCart(1, REASON), 1);
            x.wish(1, 0, NONE, NONE);
            due("a wish that comes later", x.ofCart(1, REASON), 1);
        });
        test("2 its check was not valid", () -> {
            CartPitches x = row(1);
            x.set(VALID, 1);
            cart(x, 0, 0);
            x.days(2);
            due("on the last day of the check", x.ofCart(0, REASON), 0);
            x.days(1);
            due("a day later", x.ofCart(0, REASON), 2);
            x.check(0);
            due("a check that comes later", x.ofCart(0, REASON), 2);
            x.days(1);
            due("checked in the morning of the day", x.ofCart(0, REASON), 0);
        });
        test("3 it was banned (when the lots were drawn)", () -> {
            CartPitches x = kitchens(6, 6, 6, 1);
            x.set(ABSENT, 3);
            x.set(LIMIT, 3);
            x.set(BAN, 1);
            x.days(1);
            due("banned behind the lots", x.ofCart(2, REASON), 5);
            x.days(1);
            due("on the last day of the ban", x.ofCart(2, REASON), 3);
            x.seed(seedForOrder(2, 0, 1));
            x.days(1);
            due("a day later", x.ofCart(2, REASON), 0);
            x.fine(2, 3);
            due("a ban that comes later", x.ofCart(2, REASON), 0);
        });
        test("4 it got no pitch by the lots", () -> {
            CartPitches x = row(2);
            cart(x, 0, 0);
            cart(x, 1, 0);
            cart(x, 0, 1);
            x.seed(seedForOrder(0, 1, 2));
            x.days(1);
            due("taken", x.ofCart(1, REASON), 4);
            due("beside its kind", x.ofCart(2, REASON), 4);
        });
        test("5 it lost it for want of a kitchen", () -> {
            CartPitches x = kitchens(6, 5, 5, 2, 1);
            x.days(1);
            due("no two hours left", x.ofCart(2, REASON), 5);
            due("one hour left", x.ofCart(3, REASON), 0);
        });
    }

    // ---- texts

    private static void texts() {
        heading("Terms: Texts");
        test("The pad is a text of at most 80 characters", () -> {
            CartPitches x = new CartPitches();
            due("80 characters", put(x, "cA;".repeat(26) + "d1"), 80);
            due("one more", x.put(packed("2")), TOO_MANY);
            due("the pad", x.count(PAD), 80);
            due("read to its end", x.fault(), NONE);
        });
        test("text = order { \";\" order }", () -> {
            faults("d1", NONE, "d1;d1", NONE, "d1;d1;d1", NONE, ";", 0, ";d1", 0, "d1;", 3, "d1;;", 3, "d1;;d1", 3, "d1,d1", 2, "d1d1", 2, "cAcA", 2);
            faults("wA;wB1;wC12;wD123;fA1;cA;sAB;d0;d10", NONE);
        });
        test("order = \"w\" cart { digit } | \"f\" cart digit | \"c\" cart | \"s\" cart cart | \"d\" number", () -> {
            faults("wA", NONE, "w", 1, "w1", 1, "fA1", NONE, "f", 1, "fA", 2, "f1", 1, "fA11", 3, "cA", NONE, "c", 1, "cA1", 2, "cAA", 2);
            faults("sAB", NONE, "sAA", NONE, "s", 1, "sA", 2, "sA1", 2, "sABC", 3, "sAB1", 3, "d1", NONE, "d", 1, "dA", 1, "dA1", 1);
            faults("W", 0, "A", 0, "1", 0, "x", 0, "v", 0, "e", 0, "g", 0, "!", 0, "~", 0);
        });
        test("\"w\": wish() of up to 3 pitches (0 to 9)", () -> {
            faults("wA0", NONE, "wA9", NONE, "wA/", 2, "wA:", 2, "wA012", NONE, "wA999", NONE, "wA01/", 4, "wA01:", 4);
            CartPitches x = row(10);
            x.cart(0, 1);
            wishesOf(x, "wA", NONE, NONE, NONE);
            wishesOf(x, "wA9", 9, NONE, NONE);
            wishesOf(x, "wA09", 0, 9, NONE);
            wishesOf(x, "wA905", 9, 0, 5);
        });
        test("\"f\": fine() of so many points (1 to 9)", () -> {
            faults("fA1", NONE, "fA9", NONE, "fA0", 2, "fA/", 2, "fA:", 2, "fA;", 2);
            CartPitches x = row(1);
            x.cart(0, 1);
            put(x, "fA1;fA9");
            due("carryOut()", x.carryOut(), 2);
            due("points", x.ofCart(0, POINTS), 10);
        });
        test("\"c\": check(); \"s\": swap()", () -> {
            CartPitches x = pairs(2);
            put(x, "cB;sBA");
            due("carryOut()", x.carryOut(), 2);
            due("waits", x.ofCart(1, WAITS), 1);
            due("waits not", x.ofCart(0, WAITS), 0);
            due("asked for", x.count(SWAPS), 1);
            put(x, "cB");
            due("waits already", x.carryOut(), 0);
            put(x, "sAA");
            due("both are the same", x.carryOut(), 0);
        });
        test("\"d\": so many days()", () -> {
            CartPitches x = row(1);
            put(x, "d1;d60;d9;d10");
            due("carryOut()", x.carryOut(), 4);
            due("today", x.count(TODAY), 80);
        });
        test("A cart is a letter from A to P.", () -> {
            faults("cA", NONE, "cP", NONE, "c@", 1, "cQ", 1, "ca", 1, "cp", 1, "c0", 1, "wA", NONE, "wP", NONE, "w@", 1, "wQ", 1);
            faults("fA1", NONE, "fP1", NONE, "f@1", 1, "fQ1", 1, "sAP", NONE, "sPA", NONE, "s@A", 1, "sQA", 1, "sA@", 2, "sAQ", 2);
            CartPitches x = row(1);
            for (int i = 0; i < 16; i++) {
                x.cart(0, 1);
            }
            put(x, "cA;cP");
            due("carryOut()", x.carryOut(), 2);
            due("A is 0", x.ofCart(0, WAITS), 1);
            due("P is 15", x.ofCart(15, WAITS), 1);
        });
        test("The number is 0 to 99, without leading zeros.", () ->
            faults("d0", NONE, "d1", NONE, "d9", NONE, "d10", NONE, "d90", NONE, "d99", NONE, "d00", 2, "d01", 2, "d09", 2, "d100", 3, "d999", 3, "d/", 1, "d:", 1,
                "d1/", 2, "d1:", 2, "d-1", 1, "d+1", 1));
        test("The fault is the index of the first character that cannot stand at its place when the text is read from left to right", () -> {
            faults("x", 0, "cAx", 2, "cAx;y", 2, "xcA", 0, "fA0;fA0", 2, "cA;fB0;", 5, "cA;cA;cA;cQ", 10);
            faults("cA;".repeat(26) + "cx", 79);
        });
        test("(also of a fourth digit behind \"w\", and of a digit by which the number would be above 99)", () ->
            faults("wA0123", 5, "wA000", NONE, "wA0000", 5, "wA999", NONE, "wA9999", 5, "wA01234", 5, "wA012;wA0123", 11, "d100", 3, "d990", 3, "d99", NONE,
                "d10;d100", 7, "d1000", 3));
        test("if there is none and the text ends too early (also if it is empty), it is the length of the text", () -> {
            faults("", 0, "w", 1, "f", 1, "fA", 2, "c", 1, "s", 1, "sA", 2, "d", 1, "cA;", 3, "cA;w", 4, "cA;fB", 5, "d99;", 4);
            faults("cA;".repeat(26) + "sA", 80);
            faults("cA;".repeat(26) + "d;", 79);
        });
    }

    private static void wishesOf(CartPitches x, String text, int first, int second, int third) {
        put(x, text);
        due("carryOut() of " + text, x.carryOut(), 1);
        due("first wish of " + text, x.ofCart(0, 3), first);
        due("second wish of " + text, x.ofCart(0, 4), second);
        due("third wish of " + text, x.ofCart(0, 5), third);
    }

    /** Texts, each with its fault. */
    private static void faults(Object... textsAndFaults) {
        CartPitches x = new CartPitches();
        for (int i = 0; i < textsAndFaults.length; i += 2) {
            String text = (String) textsAndFaults[i];
            put(x, text);
            due("fault() of " + text, x.fault(), (Integer) textsAndFaults[i + 1]);
            x.wipe();
        }
    }

    public static void main(String[] args) {
        whatItIs();
        conventions();
        settings();
        pitchesAndCarts();
        checks();
        lots();
        kitchens();
        swaps();
        tradeAndEnd();
        reasons();
        texts();
        end();
    }
}
