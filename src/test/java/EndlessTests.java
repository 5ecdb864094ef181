import java.lang.reflect.Field;

/**
 * LANGUAGE.md, rule 7: "No call may ever throw or fail to end, for any arguments in any state". The far-off states are
 * those that an object would reach only long behind its 512th call; what it answers there is free.
 */
public final class EndlessTests {
    private static final int[] ARGUMENTS = {Integer.MIN_VALUE, -7, -6, -1, 0, 1, 2, 9, 15, 60, 400, Integer.MAX_VALUE};

    private static int wrong = 0;
    private static int calls = 0;

    private static CartPitches busyRow() {
        CartPitches x = new CartPitches();
        for (int i = 0; i < 10; i++) {
            x.pitch(100 * i);
        }
        for (int i = 0; i < 16; i++) {
            x.cart(i % 6, 1 + i % 6);
            x.wish(i, i % 10, (i + 3) % 10, (i + 5) % 10);
        }
        x.set(CartPitches.LAPSE, 200);
        x.set(CartPitches.VALID, 200);
        return x;
    }

    private static Field field(Object owner, String name) throws Exception {
        Field found = owner.getClass().getDeclaredField(name);
        found.setAccessible(true);
        return found;
    }

    private static void setToday(CartPitches x, int today) throws Exception {
        Object state = field(x, "now").get(x);
        field(state, "today").setInt(state, today);
        for (Object cart : (Object[]) field(state, "carts").get(state)) {
            field(cart, "validUpTo").setInt(cart, Integer.MAX_VALUE);
        }
    }

    private static void setOfCarts(CartPitches x, String name, int value) throws Exception {
        Object state = field(x, "now").get(x);
        Object[] carts = (Object[]) field(state, "carts").get(state);
        for (int i = 0; i < carts.length; i += 2) {
            field(carts[i], name).setInt(carts[i], value);
        }
    }

    private static void askAll(CartPitches x, int a, int b) {
        x.ofCart(a, b);
        x.money(a, b);
        x.ofPitch(a, b);
        x.count(a);
        x.pointsOn(a, b);
        x.pointsOn(a, x.count(0));
        x.pointsOn(a, x.count(0) + b);
        x.wouldHave(a);
        x.ifWished(a, b);
        x.firstDay(a);
        x.daysOf(a, b);
        x.luckySeed(a, b);
        x.whyNot(a, b);
        x.fault();
        calls += 14;
    }

    private static void changeAll(CartPitches x, int a, int b) {
        x.set(a, b);
        x.seed(b);
        x.pitch(b);
        x.rent(a, b);
        x.cart(a, b);
        x.wish(a, b, a, b);
        x.fine(a, b);
        x.check(a);
        x.swap(a, b);
        x.pay(a, b);
        x.days(b);
        x.put((long) a << 32 | b);
        x.put(0x66413964363063L);
        x.carryOut();
        x.wipe();
        x.put(0x6643393b643630L);
        x.carryOut();
        x.save(a);
        x.restore(b);
        x.undo();
        calls += 20;
    }

    /** Each pair of arguments, first asked and then let change the object; the object goes on from there. */
    private static void all(String where, CartPitches x) {
        for (int a : ARGUMENTS) {
            for (int b : ARGUMENTS) {
                try {
                    askAll(x, a, b);
                    changeAll(x, a, b);
                } catch (RuntimeException | Error thrown) {
                    wrong++;
                    System.out.println(where + ", arguments " + a + " and " + b + ": threw " + thrown);
                    return;
                }
            }
        }
    }

    private static void onDay(int today) throws Exception {
        CartPitches x = busyRow();
        setToday(x, today);
        all("on the day " + today, x);
    }

    private static void behind(String name, int value) throws Exception {
        CartPitches x = busyRow();
        x.days(1);
        setOfCarts(x, name, value);
        all("behind " + name + " = " + value, x);
    }

    public static void main(String[] args) throws Exception {
        all("on a new object", new CartPitches());
        all("on a busy row", busyRow());
        for (int ahead = 0; ahead <= 240; ahead += 8) {
            onDay(Integer.MAX_VALUE - ahead);
        }
        onDay(Integer.MIN_VALUE);
        onDay(Integer.MIN_VALUE + 100);
        onDay(-100);
        for (String name : new String[] {"losses", "validUpTo", "bannedUpTo", "daysWithPitch"}) {
            behind(name, Integer.MAX_VALUE);
            behind(name, Integer.MIN_VALUE);
        }
        System.out.println(wrong == 0 ? "none of " + calls + " calls threw" : wrong + " faults");
        if (wrong != 0) {
            System.exit(1);
        }
    }
}
