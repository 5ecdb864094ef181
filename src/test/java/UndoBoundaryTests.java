import java.util.List;

/** Each sentence of the promises 28 to 30 that names a boundary case, with a test of its own. */
public final class UndoBoundaryTests extends Boundaries {
    /** One call of each method that is a change, possible on the busy row. */
    private static final Call[] CHANGES = {
        x -> x.set(TICKETS, 5), x -> x.seed(7), x -> x.pitch(7), x -> x.rent(1, 7), x -> x.cart(1, 2), x -> x.wish(0, 1, 2, 3),
        x -> x.fine(0, 7), x -> x.check(3), x -> x.swap(2, 1), x -> x.pay(0, 7), x -> x.days(3), x -> x.carryOut(), x -> x.restore(0)};
    /** One call of each of them that changes nothing on the busy row, behind restore(1), save(1) and wish(0, 1, 2, 3). */
    private static final Call[] SAME_AGAIN = {
        x -> x.set(TICKETS, 8), x -> x.seed(x.count(X)), x -> x.rent(1, 200), x -> x.wish(0, 1, 2, 3), x -> x.wish(0, 1, 2, 3)};
    /** A call of each method that is no change. */
    private static final Call[] NO_CHANGES = {
        x -> x.ofCart(0, 0), x -> x.money(0, 0), x -> x.ofPitch(0, 0), x -> x.count(0), x -> x.pointsOn(0, x.count(TODAY)), x -> x.wouldHave(0),
        x -> x.ifWished(0, 0), x -> x.firstDay(0), x -> x.daysOf(0, 60), x -> x.luckySeed(0, NONE), x -> x.whyNot(0, 0), x -> x.put(packed(";d1")),
        x -> x.wipe(), x -> x.fault(), x -> x.save(0)};

    private static void undo() {
        heading("Promise 28: undo");
        test("everything except the pad, the slots and the history is as it was before it", () -> {
            for (int change = 0; change < CHANGES.length; change++) {
                CartPitches x = busyRow();
                List<Long> before = toldOfTheRow(x);
                due("change " + change, CHANGES[change].on(x) >= 0 ? 1 : 0, 1);
                due("change " + change + " shows", toldOfTheRow(x).equals(before) ? 0 : 1, 1);
                due("undo() of change " + change, x.undo(), 5);
                dueAll("undo() of change " + change, toldOfTheRow(x), before);
            }
        });
        test("is as it was before it", () -> {
            // Each swap with both of its carts, in their order.
            CartPitches x = pairs(4);
            x.swap(3, 2);
            x.swap(2, 1);
            x.days(1);
            x.swap(0, 1);
            x.undo();
            x.undo();
            due("asked for", x.count(SWAPS), 2);
            due("would have", x.wouldHave(1), 3);
            x.days(1);
            due("the first", x.ofCart(3, HAS), 2);
            due("the second", x.ofCart(2, HAS), 1);
            due("the third", x.ofCart(1, HAS), 3);
            due("done", x.count(SWAPPED), 2);
        });
        test("except the pad", () -> {
            CartPitches x = pairs(2);
            put(x, "cA");
            x.days(1);
            put(x, ";d1");
            x.undo();
            due("what was put before and behind the change", x.count(PAD), 5);
            due("carryOut()", x.carryOut(), 2);
            x.undo();
            due("the pad stays empty", x.count(PAD), 0);
            put(x, "d1");
            x.days(1);
            x.wipe();
            x.undo();
            due("the pad stays empty", x.count(PAD), 0);
        });
        test("the slots", () -> {
            CartPitches x = pairs(2);
            x.days(5);
            x.save(0);
            x.undo();
            due("what was saved behind the change", x.restore(0), 5);
            x.undo();
            x.save(0);
            x.days(1);
            x.undo();
            due("what was saved before the change", x.restore(0), 0);
            due("never saved", x.restore(1), NOT_POSSIBLE);
        });
        test("A history of at most 6 states is kept", () -> {
            CartPitches x = new CartPitches();
            for (int i = 1; i <= 8; i++) {
                x.pitch(i);
                due("behind " + i + " changes", x.count(UNDOABLE), Math.min(i, 6));
            }
            for (int i = 5; i >= 0; i--) {
                due("undo()", x.undo(), i);
                due("pitches", x.count(PITCHES), i + 2);
            }
            due("the seventh undo()", x.undo(), NOT_POSSIBLE);
            due("pitches", x.count(PITCHES), 2);
        });
        test("each method that is a change, and returns no error, records the state before it", () -> {
            for (int change = 0; change < CHANGES.length; change++) {
                CartPitches x = busyRow();
                x.undo();
                x.undo();
                int undoable = x.count(UNDOABLE);
                CHANGES[change].on(x);
                due("behind change " + change, x.count(UNDOABLE), undoable + 1);
            }
            for (int call = 0; call < NO_CHANGES.length; call++) {
                CartPitches x = busyRow();
                x.undo();
                int undoable = x.count(UNDOABLE);
                due("call " + call + " is possible", NO_CHANGES[call].on(x) != NO_SUCH ? 1 : 0, 1);
                due("behind call " + call, x.count(UNDOABLE), undoable);
            }
        });
        test("and returns no error", () -> {
            CartPitches x = fullRow();
            put(x, "");
            x.undo();
            x.swap(0, 1);
            Call[] refused = {
                y -> y.set(0, 0), y -> y.seed(-1), y -> y.pitch(-1), y -> y.pitch(1), y -> y.rent(10, 1), y -> y.rent(0, -1), y -> y.cart(6, 1),
                y -> y.cart(0, 1), y -> y.wish(16, 0, 1, 2), y -> y.wish(0, 1, 1, 2), y -> y.fine(16, 1), y -> y.fine(0, 0), y -> y.check(16),
                y -> y.check(0), y -> y.swap(0, 0), y -> y.swap(0, 1), y -> y.pay(16, 1), y -> y.pay(0, 0), y -> y.days(0), y -> y.days(61),
                y -> y.restore(0), y -> y.restore(2), y -> y.save(2)};
            List<Long> before = told(x);
            for (int call = 0; call < refused.length; call++) {
                due("refused call " + call, refused[call].on(x) < 0 ? 1 : 0, 1);
                due("behind refused call " + call, x.count(UNDOABLE), 6);
            }
            x.wipe();
            due("carryOut() of an empty pad", x.carryOut(), BAD_TEXT);
            due("behind carryOut()", x.count(UNDOABLE), 6);
            put(x, "cA;".repeat(26) + "d1");
            dueAll("all refused calls", told(x), before);
            due("undo() of the last swap", x.undo(), 5);
            due("swaps", x.count(SWAPS), 7);
        });
        test("(also if nothing is different then)", () -> {
            for (int call = 0; call < SAME_AGAIN.length; call++) {
                CartPitches x = busyRow();
                x.undo();
                x.undo();
                x.wish(0, 1, 2, 3);
                List<Long> before = toldOfTheRow(x);
                int undoable = x.count(UNDOABLE);
                SAME_AGAIN[call].on(x);
                dueAll("call " + call, toldOfTheRow(x), before);
                due("behind call " + call, x.count(UNDOABLE), undoable + 1);
            }
            CartPitches x = row(1);
            x.save(0);
            due("restore() of the same", x.restore(0), 0);
            due("behind restore()", x.count(UNDOABLE), 2);
            put(x, "d0");
            due("carryOut() of none", x.carryOut(), 0);
            due("behind carryOut()", x.count(UNDOABLE), 3);
        });
        test("when one more is recorded, the oldest one is dropped", () -> {
            // The history turns round several times, with undo() between, and what it gives back is always the latest state.
            CartPitches x = new CartPitches();
            int[] values = new int[100];
            int kept = 0;
            int top = 0;
            values[0] = 1;
            for (int step = 0; step < 18; step++) {
                int changes = 1 + step % 9;
                for (int i = 0; i < changes; i++) {
                    top++;
                    values[top] = 1000 * step + i + 2;
                    due("seed()", x.seed(values[top]), values[top - 1]);
                    kept = Math.min(6, kept + 1);
                    due("changes", x.count(UNDOABLE), kept);
                }
                int undone = step % 4 + step % 9 - 1;
                for (int i = 0; i < undone; i++) {
                    due("undo()", x.undo(), kept == 0 ? NOT_POSSIBLE : kept - 1);
                    top -= kept == 0 ? 0 : 1;
                    kept -= kept == 0 ? 0 : 1;
                    due("x", x.count(X), values[top]);
                }
            }
        });
        test("An order of a text records nothing by itself.", () -> {
            CartPitches x = pairs(1);
            x.undo();
            x.undo();
            int undoable = x.count(UNDOABLE);
            x.cart(0, 1);
            put(x, "fA1;wA0;cA;d1;fA1;d2;fA1");
            due("carryOut()", x.carryOut(), 7);
            due("changes", x.count(UNDOABLE), undoable + 2);
            x.undo();
            due("points behind one undo()", x.ofCart(0, POINTS), 0);
            due("today", x.count(TODAY), 0);
            due("carts", x.count(CARTS), 1);
        });
        test("Returns how many changes can be undone then", () -> {
            CartPitches x = row(3);
            due("undo()", x.undo(), 2);
            due("undo()", x.undo(), 1);
            due("undo()", x.undo(), 0);
            due("count(UNDOABLE)", x.count(UNDOABLE), 0);
        });
        test("NOT_POSSIBLE if there is none", () -> {
            CartPitches x = new CartPitches();
            due("undo() of a new object", x.undo(), NOT_POSSIBLE);
            x.pitch(5);
            due("undo()", x.undo(), 0);
            due("undo() again", x.undo(), NOT_POSSIBLE);
            due("and again", x.undo(), NOT_POSSIBLE);
            due("pitches", x.count(PITCHES), 0);
            x.save(0);
            put(x, "d1");
            due("save() and put() are no changes", x.undo(), NOT_POSSIBLE);
        });
    }

    private static void save() {
        heading("Promise 29: save");
        test("Saves everything except the pad, the history and the slots in a slot", () -> {
            for (int slot = 0; slot < 2; slot++) {
                CartPitches x = busyRow();
                List<Long> saved = toldOfTheRow(x);
                due("save(" + slot + ")", x.save(slot), 2);
                for (int change = 0; change < CHANGES.length - 1; change++) {
                    CHANGES[change].on(x);
                }
                due("differs", toldOfTheRow(x).equals(saved) ? 0 : 1, 1);
                put(x, "d1");
                due("restore(" + slot + ")", x.restore(slot), 2);
                dueAll("restore()", toldOfTheRow(x), saved);
                due("the pad", x.count(PAD), 2);
                due("the history", x.count(UNDOABLE), 6);
            }
        });
        test("Saves everything", () -> {
            CartPitches x = pairs(4);
            x.swap(3, 2);
            x.swap(2, 1);
            x.save(1);
            x.days(1);
            x.swap(0, 1);
            x.restore(1);
            due("asked for", x.count(SWAPS), 2);
            x.days(1);
            due("the first", x.ofCart(3, HAS), 2);
            due("the second", x.ofCart(2, HAS), 1);
            due("the third", x.ofCart(1, HAS), 3);
            due("done", x.count(SWAPPED), 2);
        });
        test("and overwrites what was saved there", () -> {
            CartPitches x = pairs(1);
            x.save(0);
            x.save(1);
            x.days(3);
            due("save(1) again", x.save(1), 3);
            x.days(4);
            due("restore(1)", x.restore(1), 3);
            due("days", x.ofCart(0, DAYS), 3);
            due("the other slot", x.restore(0), 0);
            due("days", x.ofCart(0, DAYS), 0);
        });
        test("slot: 0 or 1", () -> {
            CartPitches x = row(0);
            due("save(0)", x.save(0), 0);
            x.days(1);
            due("save(1)", x.save(1), 1);
            due("restore(0)", x.restore(0), 0);
            due("restore(1)", x.restore(1), 1);
        });
        test("Returns today", () -> {
            CartPitches x = row(0);
            due("save(0)", x.save(0), 0);
            x.days(60);
            due("save(0)", x.save(0), 60);
            x.restore(0);
            x.undo();
            x.undo();
            due("save(1)", x.save(1), 0);
        });
        test("BAD_VALUE if there is no such slot", () -> {
            CartPitches x = row(1);
            due("save(2)", x.save(2), BAD_VALUE);
            for (int slot : NEVER) {
                due("save(" + slot + ")", x.save(slot), BAD_VALUE);
            }
            due("restore(0)", x.restore(0), NOT_POSSIBLE);
            due("restore(1)", x.restore(1), NOT_POSSIBLE);
        });
    }

    private static void restore() {
        heading("Promise 30: restore");
        test("Restores what was saved last in a slot, which keeps it.", () -> {
            CartPitches x = busyRow();
            List<Long> saved = toldOfTheRow(x);
            x.save(0);
            for (int time = 0; time < 3; time++) {
                for (int change = 0; change < CHANGES.length - 2; change++) {
                    CHANGES[change].on(x);
                }
                due("restore(0)", x.restore(0), 2);
                dueAll("restore() for the time " + time, toldOfTheRow(x), saved);
            }
        });
        test("This is a change.", () -> dueChange(busyRow(), x -> x.restore(0), x -> x.restore(2)));
        test("slot: 0 or 1", () -> {
            CartPitches x = row(1);
            x.save(0);
            x.days(1);
            x.save(1);
            due("restore(0)", x.restore(0), 0);
            due("today", x.count(TODAY), 0);
            due("restore(1)", x.restore(1), 1);
            due("today", x.count(TODAY), 1);
        });
        test("Returns today then", () -> {
            CartPitches x = row(1);
            x.save(0);
            x.days(60);
            x.save(1);
            due("an earlier day", x.restore(0), 0);
            due("a later day", x.restore(1), 60);
            due("a day later", x.days(1), 61);
        });
        test("BAD_VALUE if there is no such slot", () -> {
            CartPitches x = row(1);
            x.save(0);
            x.save(1);
            due("restore(2)", x.restore(2), BAD_VALUE);
            for (int slot : NEVER) {
                due("restore(" + slot + ")", x.restore(slot), BAD_VALUE);
            }
            due("changes", x.count(UNDOABLE), 1);
        });
        test("NOT_POSSIBLE if nothing was saved in it", () -> {
            CartPitches x = row(1);
            due("restore(0)", x.restore(0), NOT_POSSIBLE);
            due("restore(1)", x.restore(1), NOT_POSSIBLE);
            x.save(1);
            due("restore(0)", x.restore(0), NOT_POSSIBLE);
            due("restore(1)", x.restore(1), 0);
            due("restore(0) behind it", x.restore(0), NOT_POSSIBLE);
            due("changes", x.count(UNDOABLE), 2);
            // What an undo() brings back has nothing to do with what a slot holds.
            x.undo();
            due("restore(0) behind an undo()", x.restore(0), NOT_POSSIBLE);
            x.save(0);
            x.undo();
            due("restore(0) of what was saved", x.restore(0), 0);
            due("pitches", x.count(PITCHES), 1);
        });
    }

    public static void main(String[] args) {
        undo();
        save();
        restore();
        end();
    }
}
