/** Long runs of mixed calls on CartPitches and on the Model: every answer, and all that can be asked, has to be the same. */
public final class ModelRuns {
    private static final int RUNS = 400;
    private static final int CALLS = 300;
    private static final int NONE = -6;

    private final CartPitches real = new CartPitches();
    private final Model model = new Model();
    private final StringBuilder story = new StringBuilder();
    private final int style;
    private long state;
    private int wrong;

    private ModelRuns(int run) {
        state = 88172645463325252L + 7919L * run;
        style = run % 4;
    }

    /** A number from 0 to bound - 1, by a plain xorshift, so that every run is the same each time. */
    private int next(int bound) {
        state ^= state << 13;
        state ^= state >>> 7;
        state ^= state << 17;
        return (int) Math.floorMod(state >>> 11, (long) bound);
    }

    private void due(String call, long got, long want) {
        story.append(call).append(" = ").append(want).append('\n');
        if (got != want) {
            wrong++;
            System.out.println(story);
            System.out.println(call + " answered " + got + ", due is " + want);
        }
    }

    private int cart() {
        return next(40) == 0 ? next(20) - 2 : next(Math.max(1, model.w.carts.size()));
    }

    private int pitch() {
        return next(40) == 0 ? next(14) - 3 : next(Math.max(1, model.w.pitches.size()));
    }

    private int pitchOrNone() {
        return next(4) == 0 ? NONE : pitch();
    }

    /** Mostly within from and to, at times at an edge or just outside. */
    private int value(int from, int to) {
        switch (next(12)) {
            case 0: return from - 1;
            case 1: return to + 1;
            case 2: return from;
            case 3: return to;
            default: return from + next(to - from + 1);
        }
    }

    private void setUp() {
        int pitches = 1 + next(10);
        int carts = 1 + next(16);
        for (int i = 0; i < pitches; i++) {
            int rent = value(0, 20000);
            due("pitch(" + rent + ")", real.pitch(rent), model.pitch(rent));
        }
        for (int i = 0; i < carts; i++) {
            int kind = next(style == 0 ? 2 : 6);
            int hours = 1 + next(style == 1 ? 6 : 3);
            due("cart(" + kind + ", " + hours + ")", real.cart(kind, hours), model.cart(kind, hours));
            wish(i);
        }
        for (int i = 0; i < 6; i++) {
            set();
        }
    }

    private void wish(int c) {
        int a = pitchOrNone(), b = pitchOrNone(), d = pitchOrNone();
        due("wish(" + c + ", " + a + ", " + b + ", " + d + ")", real.wish(c, a, b, d), model.wish(c, a, b, d));
    }

    private void set() {
        int s = value(0, 9);
        int v = s < 0 || s > 9 ? next(10) : value(Model.LEAST[s], style == 2 ? Math.min(Model.MOST[s], Model.LEAST[s] + 9) : Model.MOST[s]);
        due("set(" + s + ", " + v + ")", real.set(s, v), model.set(s, v));
    }

    private void put(String text) {
        for (int i = 0; i < text.length(); i += 8) {
            long packed = 0;
            for (char sign : text.substring(i, Math.min(i + 8, text.length())).toCharArray()) {
                packed = packed << 8 | sign;
            }
            due("put(" + packed + ")", real.put(packed), model.put(packed));
        }
    }

    private String order() {
        char c = (char) ('A' + (next(8) == 0 ? next(18) : next(Math.max(1, model.w.carts.size()))));
        switch (next(6)) {
            case 0: return "c" + c;
            case 1: return "f" + c + next(10);
            case 2: return "s" + c + (char) ('A' + next(Math.max(1, model.w.carts.size())));
            case 3: return "d" + next(next(3) == 0 ? 120 : 4);
            default:
                StringBuilder text = new StringBuilder("w").append(c);
                for (int i = next(8) == 0 ? 4 : next(4); i > 0; i--) text.append(next(10) == 0 ? next(10) : next(Math.max(1, model.w.pitches.size())));
                return text.toString();
        }
    }

    private void text() {
        switch (next(10)) {
            case 0:
                long odd = next(3) == 0 ? state : state >>> (8 * next(8));
                due("put(" + odd + ")", real.put(odd), model.put(odd));
                break;
            case 1: put("" + "wfcsd;AQ0189@ :".charAt(next(15))); break;
            case 2: due("wipe()", real.wipe(), model.wipe()); break;
            case 3: case 4: case 5:
                due("fault()", real.fault(), model.fault());
                due("carryOut()", real.carryOut(), model.carryOut());
                if (next(2) == 0) due("wipe()", real.wipe(), model.wipe());
                break;
            default: put((model.pad.isEmpty() ? "" : ";") + order());
        }
    }

    private void change() {
        int c = cart(), n;
        switch (next(14)) {
            case 0: set(); break;
            case 1: n = value(0, 65536); due("seed(" + n + ")", real.seed(n), model.seed(n)); break;
            case 2: n = value(0, 20000); due("pitch(" + n + ")", real.pitch(n), model.pitch(n)); break;
            case 3: int p = pitch(); n = value(0, 20000); due("rent(" + p + ", " + n + ")", real.rent(p, n), model.rent(p, n)); break;
            case 4: int k = value(0, 5); n = value(1, 6); due("cart(" + k + ", " + n + ")", real.cart(k, n), model.cart(k, n)); break;
            case 5: case 6: wish(c); break;
            case 7: n = value(1, style == 3 ? 9 : 4); due("fine(" + c + ", " + n + ")", real.fine(c, n), model.fine(c, n)); break;
            case 8: due("check(" + c + ")", real.check(c), model.check(c)); break;
            case 9: int o = cart(); due("swap(" + c + ", " + o + ")", real.swap(c, o), model.swap(c, o)); break;
            case 10: n = value(1, 1000000); due("pay(" + c + ", " + n + ")", real.pay(c, n), model.pay(c, n)); break;
            default: n = next(4) == 0 ? value(1, 60) : 1 + next(3); due("days(" + n + ")", real.days(n), model.days(n));
        }
    }

    private void ask() {
        int c = cart(), p = pitch(), n;
        switch (next(8)) {
            case 0: n = model.w.today + value(0, 400); due("pointsOn(" + c + ", " + n + ")", real.pointsOn(c, n), model.pointsOn(c, n)); break;
            case 1: due("wouldHave(" + c + ")", real.wouldHave(c), model.wouldHave(c)); break;
            case 2: due("ifWished(" + c + ", " + p + ")", real.ifWished(c, p), model.ifWished(c, p)); break;
            case 3: due("firstDay(" + c + ")", real.firstDay(c), model.firstDay(c)); break;
            case 4: n = value(1, 60); due("daysOf(" + c + ", " + n + ")", real.daysOf(c, n), model.daysOf(c, n)); break;
            case 5: if (next(3) == 0) { n = pitchOrNone(); due("luckySeed(" + c + ", " + n + ")", real.luckySeed(c, n), model.luckySeed(c, n)); } break;
            case 6: due("whyNot(" + c + ", " + p + ")", real.whyNot(c, p), model.whyNot(c, p)); break;
            default: everything();
        }
    }

    private void keep() {
        int slot = value(0, 1);
        switch (next(4)) {
            case 0: due("save(" + slot + ")", real.save(slot), model.save(slot)); break;
            case 1: due("restore(" + slot + ")", real.restore(slot), model.restore(slot)); break;
            default: for (int i = next(4); i >= 0; i--) due("undo()", real.undo(), model.undo());
        }
    }

    private void everything() {
        int told = story.length();
        for (int what = -1; what <= 20; what++) {
            due("count(" + what + ")", real.count(what), model.count(what));
            for (int c = -1; c <= 16; c++) {
                due("ofCart(" + c + ", " + what + ")", real.ofCart(c, what), model.ofCart(c, what));
                due("money(" + c + ", " + what + ")", real.money(c, what), model.money(c, what));
            }
            for (int p = -1; p <= 10; p++) {
                due("ofPitch(" + p + ", " + what + ")", real.ofPitch(p, what), model.ofPitch(p, what));
            }
        }
        story.setLength(told);
    }

    private boolean run() {
        setUp();
        for (int call = 0; call < CALLS && wrong == 0; call++) {
            int turn = next(20);
            if (turn < 11) change();
            else if (turn < 16) ask();
            else if (turn < 18) text();
            else if (turn < 19) keep();
            else everything();
        }
        everything();
        return wrong == 0;
    }

    public static void main(String[] args) {
        int failed = 0;
        for (int run = 0; run < RUNS && failed == 0; run++) {
            if (!new ModelRuns(run).run()) {
                System.out.println("run " + run + " differs from the model");
                failed++;
            }
        }
        System.out.println(failed == 0 ? RUNS + " runs agree with the model" : "the class differs from the model");
        if (failed != 0) {
            System.exit(1);
        }
    }
}
