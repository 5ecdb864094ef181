import java.util.ArrayList;
import java.util.Collections;
import java.util.List;

/**
 * What the boundary tests share: one test for each sentence of the document that names a boundary case, told in its words,
 * and rows of pitches and carts to begin with.
 */
abstract class Boundaries {
    static final int NO_SUCH = -1, BAD_VALUE = -2, BAD_TEXT = -3, TOO_MANY = -4, NOT_POSSIBLE = -5, NONE = -6;
    static final int TICKETS = 0, VALID = 1, CHECKS = 2, LIMIT = 3, BAN = 4, LAPSE = 5, FINE = 6, ABSENT = 7, OPEN = 8, SWAP = 9;
    static final int LEAST_INT = Integer.MIN_VALUE, MOST_INT = Integer.MAX_VALUE;

    /** Numbers that are never a cart, nor a pitch, nor a slot, nor something to ask for: the codes among them. */
    static final int[] NEVER = {LEAST_INT, -7, NONE, NOT_POSSIBLE, TOO_MANY, BAD_TEXT, BAD_VALUE, NO_SUCH, MOST_INT};

    /** What ofCart() tells of a cart. */
    static final int WISHES = 2, LOSSES = 6, VALID_UP_TO = 7, WAITS = 8, POINTS = 9, BANNED_UP_TO = 10, DAYS = 11, HAS = 12, HOUR = 13,
        REASON = 14, PLACE = 15;
    /** What money() tells of a cart. */
    static final int BALANCE = 0, PAID_IN = 1, RENTS = 2, FINES = 3, FOR_SWAPS = 4;
    /** What ofPitch() tells of a pitch. */
    static final int RENT = 0, TAKEN = 1, RENTS_PAID = 2, HOLDER = 3;
    /** What count() tells. */
    static final int TODAY = 0, CARTS = 1, PITCHES = 2, X = 3, WAITING = 4, SWAPS = 5, PAD = 6, UNDOABLE = 7, SETTING = 8, HAD = 18, SWAPPED = 19;

    /** A call on an object, to be told in a table. */
    interface Call {
        long on(CartPitches x);
    }

    /** A call on a cart, or on a pitch. */
    interface NumberCall {
        long on(CartPitches x, int number);
    }

    private static String heading = "";
    private static String sentence = "";
    private static int tests = 0;
    private static int asked = 0;
    private static int wrong = 0;

    static void heading(String itsHeading) {
        heading = itsHeading;
    }

    static void test(String itsSentence, Runnable itsTest) {
        sentence = itsSentence;
        tests++;
        int before = asked;
        try {
            itsTest.run();
        } catch (RuntimeException | Error thrown) {
            fault("threw " + thrown);
        }
        if (asked == before) {
            fault("the test asks nothing");
        }
    }

    private static void fault(String what) {
        wrong++;
        System.out.println(heading + ", \"" + sentence + "\": " + what);
    }

    static void due(String call, long got, long want) {
        asked++;
        if (got != want) {
            fault(call + " answered " + got + ", due is " + want);
        }
    }

    /** Two rows of answers to the same questions. */
    static void dueAll(String call, List<Long> got, List<Long> want) {
        due("answers of " + call, got.size(), want.size());
        for (int i = 0; i < Math.min(got.size(), want.size()); i++) {
            due("question " + i + " behind " + call, got.get(i), want.get(i));
        }
    }

    /** A call that is a change records the state before it; when it is refused it records nothing. */
    static void dueChange(CartPitches x, Call change, Call refused) {
        if (x.count(UNDOABLE) > 5) {
            x.undo();
        }
        List<Long> before = toldOfTheRow(x);
        int undoable = x.count(UNDOABLE);
        due("refused", refused.on(x) < 0 ? 1 : 0, 1);
        due("changes behind the refused one", x.count(UNDOABLE), undoable);
        due("the change", change.on(x) >= 0 ? 1 : 0, 1);
        due("changes behind the change", x.count(UNDOABLE), undoable + 1);
        due("differs behind the change", toldOfTheRow(x).equals(before) ? 0 : 1, 1);
        due("undo()", x.undo(), undoable);
        dueAll("undo()", toldOfTheRow(x), before);
    }

    /** A call that answers NO_SUCH for each number that is no cart, and for no other. */
    static void dueNoSuchCart(NumberCall call) {
        due("on an object without carts", call.on(row(3), 0), NO_SUCH);
        CartPitches x = pairs(3);
        due("on the last cart", call.on(x, 2) == NO_SUCH ? 1 : 0, 0);
        due("on the number behind it", call.on(x, 3), NO_SUCH);
        for (int cart : NEVER) {
            due("on the cart " + cart, call.on(x, cart), NO_SUCH);
        }
        CartPitches full = fullRow();
        due("on the sixteenth cart", call.on(full, 15) == NO_SUCH ? 1 : 0, 0);
        due("on the seventeenth cart", call.on(full, 16), NO_SUCH);
    }

    /** A call that answers NO_SUCH for each number that is no pitch, and for no other; pitch 0 is asked where there is none. */
    static void dueNoSuchPitch(NumberCall call) {
        CartPitches empty = row(0);
        empty.cart(0, 1);
        due("on a row without pitches", call.on(empty, 0), NO_SUCH);
        CartPitches x = pairs(3);
        due("on the last pitch", call.on(x, 2) == NO_SUCH ? 1 : 0, 0);
        due("on the number behind it", call.on(x, 3), NO_SUCH);
        CartPitches full = fullRow();
        due("on the tenth pitch", call.on(full, 9) == NO_SUCH ? 1 : 0, 0);
        due("on the eleventh pitch", call.on(full, 10), NO_SUCH);
        for (int pitch : NEVER) {
            if (pitch != NONE) {
                due("on the pitch " + pitch, call.on(x, pitch), NO_SUCH);
            }
        }
    }

    static void end() {
        System.out.println(wrong == 0 ? tests + " sentences hold" : wrong + " answers are not as due");
        if (wrong != 0) {
            System.exit(1);
        }
    }

    // ---- rows to begin with

    /** A row of so many pitches with the rents 100, 200, .. */
    static CartPitches row(int pitches) {
        CartPitches x = new CartPitches();
        for (int i = 0; i < pitches; i++) {
            x.pitch(100 * (i + 1));
        }
        return x;
    }

    static int wish(CartPitches x, int cart, int... wishes) {
        return x.wish(cart, wishes.length > 0 ? wishes[0] : NONE, wishes.length > 1 ? wishes[1] : NONE, wishes.length > 2 ? wishes[2] : NONE);
    }

    /** Adds a cart of 1 hour with the wishes. */
    static int cart(CartPitches x, int kind, int... wishes) {
        int number = x.cart(kind, 1);
        wish(x, number, wishes);
        return number;
    }

    /** So many pitches, and as many carts of different kinds with 1 hour: each wishes the pitch with its own number. */
    static CartPitches pairs(int many) {
        CartPitches x = row(many);
        for (int i = 0; i < many; i++) {
            cart(x, i % 6, i);
        }
        return x;
    }

    /** As pairs(), with so many hours each, drawn from the lowest number on. */
    static CartPitches kitchens(int open, int... hours) {
        CartPitches x = row(hours.length);
        int[] order = new int[hours.length];
        for (int i = 0; i < hours.length; i++) {
            wish(x, x.cart(i % 6, hours[i]), i);
            order[i] = i;
        }
        x.set(OPEN, open);
        x.seed(seedForOrder(order));
        return x;
    }

    /** Things have happened on this row, more is asked for, both slots are full and so is the history. */
    static CartPitches busyRow() {
        CartPitches x = kitchens(6, 3, 4, 2, 3);
        x.save(0);
        cart(x, 0, 3, 2);
        cart(x, 5);
        x.fine(4, 3);
        x.pay(4, 70);
        x.swap(1, 3);
        x.days(2);
        x.save(1);
        x.check(2);
        x.swap(0, 4);
        x.swap(3, 2);
        x.fine(0, 2);
        put(x, "cA;d1;fB2");
        return x;
    }

    /** As many pitches, carts, swaps that are asked for, carts that wait and characters as there can be. */
    static CartPitches fullRow() {
        CartPitches x = pairs(10);
        for (int i = 10; i < 16; i++) {
            cart(x, i % 6, i - 10, i - 9, i - 8);
        }
        x.days(3);
        for (int i = 0; i < 16; i++) {
            x.check(i);
        }
        x.save(1);
        for (int i = 0; i < 8; i++) {
            x.swap(i, i + 1);
        }
        put(x, "cA;".repeat(26) + "d1");
        return x;
    }

    static int put(CartPitches x, String text) {
        int length = 0;
        for (int i = 0; i < text.length(); i += 8) {
            length = x.put(packed(text.substring(i, Math.min(i + 8, text.length()))));
        }
        return length;
    }

    /** 1 to 8 characters as the number that put() takes. */
    static long packed(String text) {
        long number = 0;
        for (int i = 0; i < text.length(); i++) {
            number = number << 8 | text.charAt(i);
        }
        return number;
    }

    // ---- lots

    static int nextX(int x) {
        return (75 * x + 74) % 65537;
    }

    /** The least number x from which the next lot falls on the ticket, of so many tickets. */
    static int seedFor(int tickets, int ticket) {
        for (int seed = 0; seed <= 65536; seed++) {
            if (nextX(seed) % tickets == ticket) {
                return seed;
            }
        }
        throw new IllegalArgumentException("no seed for the ticket");
    }

    /** The least number x from which carts that have one ticket each are drawn in this order. */
    static int seedForOrder(int... order) {
        for (int seed = 0; seed <= 65536; seed++) {
            if (drawsInOrder(seed, order)) {
                return seed;
            }
        }
        throw new IllegalArgumentException("no seed for the order");
    }

    private static boolean drawsInOrder(int seed, int... order) {
        List<Integer> left = new ArrayList<>();
        for (int cart : order) {
            left.add(cart);
        }
        Collections.sort(left);
        int x = seed;
        for (int cart : order) {
            x = nextX(x);
            if (left.remove(x % left.size()) != cart) {
                return false;
            }
        }
        return true;
    }

    // ---- all that can be asked

    /** All that the object tells without being changed. */
    static List<Long> told(CartPitches x) {
        List<Long> all = new ArrayList<>();
        for (int what = 0; what < 20; what++) {
            all.add((long) x.count(what));
        }
        all.add((long) x.fault());
        for (int c = 0; c < x.count(CARTS); c++) {
            for (int what = 0; what < 16; what++) {
                all.add((long) x.ofCart(c, what));
            }
            for (int what = 0; what < 5; what++) {
                all.add(x.money(c, what));
            }
            for (int p = 0; p < x.count(PITCHES); p++) {
                all.add((long) x.whyNot(c, p));
                all.add((long) x.ifWished(c, p));
            }
            all.add((long) x.wouldHave(c));
            all.add((long) x.daysOf(c, 20));
            all.add((long) x.pointsOn(c, x.count(TODAY) + x.count(SETTING + LAPSE) - 1));
        }
        for (int p = 0; p < x.count(PITCHES); p++) {
            for (int what = 0; what < 4; what++) {
                all.add((long) x.ofPitch(p, what));
            }
        }
        return all;
    }

    /** As told(), but without the pad and the history, which neither undo() nor restore() brings back. */
    static List<Long> toldOfTheRow(CartPitches x) {
        List<Long> all = told(x);
        all.set(PAD, 0L);
        all.set(UNDOABLE, 0L);
        all.set(20, 0L);
        return all;
    }

    /** All that is in the object: what it tells, what the pad's orders do, what undo() brings back, and the slots. It changes the object. */
    static List<Long> inside(CartPitches x) {
        List<Long> all = told(x);
        for (int undone = 0; undone < 8; undone++) {
            all.add((long) x.undo());
            all.addAll(told(x));
        }
        for (int slot = 0; slot < 2; slot++) {
            all.add((long) x.restore(slot));
            all.addAll(told(x));
        }
        all.add((long) x.carryOut());
        all.addAll(told(x));
        return all;
    }
}
