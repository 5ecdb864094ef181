import java.util.ArrayList;
import java.util.Arrays;
import java.util.List;
import java.util.regex.Pattern;

/**
 * The document told a second time, as slowly and literally as can be: points are a list of gifts, kitchens are rows of
 * hours, lots are a list of all tickets, texts are a pattern. ModelRuns compares the class with it.
 */
final class Model {
    static final int NO_SUCH = -1, BAD_VALUE = -2, BAD_TEXT = -3, TOO_MANY = -4, NOT_POSSIBLE = -5, NONE = -6;
    static final int[] LEAST = {1, 1, 1, 3, 1, 1, 0, 0, 6, 0};
    static final int[] MOST = {20, 200, 8, 30, 60, 200, 10000, 9, 14, 5000};
    static final String ORDER = "(w[A-P][0-9]{0,3}|f[A-P][1-9]|c[A-P]|s[A-P][A-P]|d(0|[1-9][0-9]?))";
    static final Pattern TEXT = Pattern.compile(ORDER + "(;" + ORDER + ")*");

    static final class Cart {
        int kind, hours, losses, valid, bannedUpTo = NONE, days, pitch = NONE, hour = NONE, reason, place = NONE;
        boolean waits;
        long paid, rents, fines, swaps;
        List<Integer> wishes = new ArrayList<>();
        List<int[]> gifts = new ArrayList<>();

        Cart copy() {
            Cart c = new Cart();
            c.kind = kind; c.hours = hours; c.losses = losses; c.valid = valid; c.bannedUpTo = bannedUpTo; c.days = days;
            c.pitch = pitch; c.hour = hour; c.reason = reason; c.place = place; c.waits = waits;
            c.paid = paid; c.rents = rents; c.fines = fines; c.swaps = swaps;
            c.wishes = new ArrayList<>(wishes);
            c.gifts = new ArrayList<>(gifts);
            return c;
        }
    }

    static final class Pitch {
        int rent, days, rents;

        Pitch copy() {
            Pitch p = new Pitch();
            p.rent = rent; p.days = days; p.rents = rents;
            return p;
        }
    }

    static final class World {
        int today, x = 1, swapsDone;
        int[] set = {8, 60, 2, 12, 14, 90, 500, 2, 11, 200};
        List<Cart> carts = new ArrayList<>();
        List<Pitch> pitches = new ArrayList<>();
        List<int[]> swaps = new ArrayList<>();

        World copy() {
            World w = new World();
            w.today = today; w.x = x; w.swapsDone = swapsDone;
            w.set = set.clone();
            for (Cart c : carts) w.carts.add(c.copy());
            for (Pitch p : pitches) w.pitches.add(p.copy());
            w.swaps.addAll(swaps);
            return w;
        }
    }

    World w = new World();
    final List<World> history = new ArrayList<>();
    final World[] slots = new World[2];
    String pad = "";

    private boolean cartIs(int c) { return c >= 0 && c < w.carts.size(); }
    private boolean pitchIs(int p) { return p >= 0 && p < w.pitches.size(); }
    private static boolean in(int v, int from, int to) { return v >= from && v <= to; }

    private void record(World before) {
        history.add(before);
        if (history.size() > 6) history.remove(0);
    }

    private int changed(World before, int answer) {
        if (answer >= 0) record(before); else w = before;
        return answer;
    }

    int set(int s, int v) {
        if (!in(s, 0, 9) || !in(v, LEAST[s], MOST[s])) return BAD_VALUE;
        record(w.copy());
        int was = w.set[s];
        w.set[s] = v;
        return was;
    }

    int seed(int s) {
        if (!in(s, 0, 65536)) return BAD_VALUE;
        record(w.copy());
        int was = w.x;
        w.x = s;
        return was;
    }

    int pitch(int rent) {
        if (!in(rent, 0, 20000)) return BAD_VALUE;
        if (w.pitches.size() == 10) return TOO_MANY;
        record(w.copy());
        Pitch p = new Pitch();
        p.rent = rent;
        w.pitches.add(p);
        return w.pitches.size() - 1;
    }

    int rent(int p, int rent) {
        if (!pitchIs(p)) return NO_SUCH;
        if (!in(rent, 0, 20000)) return BAD_VALUE;
        record(w.copy());
        int was = w.pitches.get(p).rent;
        w.pitches.get(p).rent = rent;
        return was;
    }

    int cart(int kind, int hours) {
        if (!in(kind, 0, 5) || !in(hours, 1, 6)) return BAD_VALUE;
        if (w.carts.size() == 16) return TOO_MANY;
        record(w.copy());
        Cart c = new Cart();
        c.kind = kind;
        c.hours = hours;
        c.valid = w.today + w.set[1];
        w.carts.add(c);
        return w.carts.size() - 1;
    }

    int wish(int c, int a, int b, int d) { return changed(w.copy(), wishNow(c, a, b, d)); }
    int fine(int c, int n) { return changed(w.copy(), fineNow(c, n)); }
    int check(int c) { return changed(w.copy(), checkNow(c)); }
    int swap(int a, int b) { return changed(w.copy(), swapNow(a, b)); }
    int days(int n) { return changed(w.copy(), daysNow(n)); }

    private int wishNow(int c, int... told) {
        if (!cartIs(c)) return NO_SUCH;
        List<Integer> wishes = new ArrayList<>();
        boolean over = false;
        for (int p : told) {
            if (p != NONE && !pitchIs(p)) return BAD_VALUE;
            over |= p == NONE;
            if (!over) wishes.add(p);
        }
        if (wishes.stream().distinct().count() < wishes.size()) return BAD_VALUE;
        w.carts.get(c).wishes = wishes;
        return wishes.size();
    }

    private int fineNow(int c, int n) {
        if (!cartIs(c)) return NO_SUCH;
        if (!in(n, 1, 9)) return BAD_VALUE;
        give(w.carts.get(c), n);
        return points(w.carts.get(c), w.today);
    }

    private int checkNow(int c) {
        if (!cartIs(c)) return NO_SUCH;
        if (w.carts.get(c).waits) return NOT_POSSIBLE;
        w.carts.get(c).waits = true;
        return waiting();
    }

    private int swapNow(int a, int b) {
        if (!cartIs(a) || !cartIs(b) || a == b) return NO_SUCH;
        if (w.swaps.size() == 8) return TOO_MANY;
        w.swaps.add(new int[] {a, b});
        return w.swaps.size();
    }

    private int daysNow(int n) {
        if (!in(n, 1, 60)) return BAD_VALUE;
        for (int i = 0; i < n; i++) day();
        return w.today;
    }

    int pay(int c, int cents) {
        if (!cartIs(c)) return NO_SUCH;
        if (!in(cents, 1, 1000000)) return BAD_VALUE;
        record(w.copy());
        w.carts.get(c).paid += cents;
        return money(c, 0) >= 0 ? 1 : 0;
    }

    private int waiting() { return (int) w.carts.stream().filter(c -> c.waits).count(); }

    private int points(Cart c, int day) {
        int sum = 0;
        for (int[] gift : c.gifts) if (gift[0] > day - w.set[5]) sum += gift[1];
        return sum;
    }

    private void give(Cart c, int n) {
        for (int i = 0; i < n; i++) {
            c.fines += w.set[6];
            c.gifts.add(new int[] {w.today, 1});
        }
        if (points(c, w.today) >= w.set[3]) {
            c.bannedUpTo = w.today + w.set[4];
            c.gifts.clear();
        }
    }

    /** The kinds on the row now, -1 where none is. */
    private int[] kinds() {
        int[] row = new int[w.pitches.size()];
        Arrays.fill(row, -1);
        for (Cart c : w.carts) if (c.pitch != NONE) row[c.pitch] = c.kind;
        return row;
    }

    private int holder(int pitch) {
        for (int c = 0; c < w.carts.size(); c++) if (w.carts.get(c).pitch == pitch) return c;
        return NONE;
    }

    private void day() {
        checks();
        List<Cart> order = lots();
        kitchens(order);
        for (int[] s : w.swaps) swapPair(w.carts.get(s[0]), w.carts.get(s[1]));
        w.swaps.clear();
        for (Cart c : w.carts) {
            if (c.pitch != NONE) {
                Pitch p = w.pitches.get(c.pitch);
                c.rents += p.rent;
                p.rents += p.rent;
                c.days++;
                p.days++;
                c.losses = 0;
            } else if (order.contains(c)) {
                c.losses++;
            }
        }
        w.today++;
    }

    private void checks() {
        List<Cart> queue = new ArrayList<>();
        for (Cart c : w.carts) if (c.waits) queue.add(c);
        queue.sort((a, b) -> Integer.compare(a.valid, b.valid));
        for (Cart c : queue.subList(0, Math.min(queue.size(), w.set[2]))) {
            c.valid = w.today + w.set[1];
            c.waits = false;
        }
    }

    private List<Cart> lots() {
        List<Cart> left = new ArrayList<>();
        List<Cart> order = new ArrayList<>();
        for (Cart c : w.carts) {
            c.pitch = c.hour = c.place = NONE;
            c.reason = c.wishes.isEmpty() ? 1 : c.valid < w.today ? 2 : c.bannedUpTo != NONE && c.bannedUpTo >= w.today ? 3 : 4;
            if (c.reason == 4) left.add(c);
        }
        while (!left.isEmpty()) {
            w.x = (int) ((75L * w.x + 74) % 65537);
            List<Cart> tickets = new ArrayList<>();
            for (Cart c : left) for (int i = 0; i < Math.min(1 + c.losses, w.set[0]); i++) tickets.add(c);
            Cart drawn = tickets.get(w.x % tickets.size());
            left.remove(drawn);
            drawn.place = order.size();
            order.add(drawn);
            int[] row = kinds();
            for (int p : drawn.wishes) {
                boolean beside = p > 0 && row[p - 1] == drawn.kind || p + 1 < row.length && row[p + 1] == drawn.kind;
                if (row[p] == -1 && !beside) {
                    drawn.pitch = p;
                    drawn.reason = 0;
                    break;
                }
            }
        }
        return order;
    }

    private void kitchens(List<Cart> order) {
        int open = w.set[8];
        boolean[][] taken = new boolean[2][open];
        for (Cart c : order) {
            if (c.pitch == NONE) continue;
            for (int begin = 0; begin + c.hours <= open && c.hour == NONE; begin++) {
                for (int k = 0; k < 2 && c.hour == NONE; k++) {
                    boolean free = true;
                    for (int h = begin; h < begin + c.hours; h++) free &= !taken[k][h];
                    if (free) {
                        Arrays.fill(taken[k], begin, begin + c.hours, true);
                        c.hour = begin;
                    }
                }
            }
            if (c.hour == NONE) {
                c.pitch = NONE;
                c.reason = 5;
                if (w.set[7] > 0) give(c, w.set[7]);
            }
        }
    }

    private void swapPair(Cart a, Cart b) {
        if (a.pitch == NONE || b.pitch == NONE) return;
        int[] row = kinds();
        row[a.pitch] = b.kind;
        row[b.pitch] = a.kind;
        for (int i = 0; i + 1 < row.length; i++) if (row[i] != -1 && row[i] == row[i + 1]) return;
        int was = a.pitch;
        a.pitch = b.pitch;
        b.pitch = was;
        a.swaps += w.set[9];
        b.swaps += w.set[9];
        w.swapsDone++;
    }

    int ofCart(int number, int what) {
        if (!cartIs(number)) return NO_SUCH;
        if (!in(what, 0, 15)) return BAD_VALUE;
        Cart c = w.carts.get(number);
        int[] all = {c.kind, c.hours, c.wishes.size(), NONE, NONE, NONE, c.losses, c.valid, c.waits ? 1 : 0,
            points(c, w.today), c.bannedUpTo, c.days, c.pitch, c.hour, c.reason, c.place};
        for (int i = 0; i < c.wishes.size(); i++) all[3 + i] = c.wishes.get(i);
        return all[what];
    }

    long money(int number, int what) {
        if (!cartIs(number)) return NO_SUCH;
        if (!in(what, 0, 4)) return BAD_VALUE;
        Cart c = w.carts.get(number);
        return new long[] {c.paid - c.rents - c.fines - c.swaps, c.paid, c.rents, c.fines, c.swaps}[what];
    }

    int ofPitch(int number, int what) {
        if (!pitchIs(number)) return NO_SUCH;
        if (!in(what, 0, 3)) return BAD_VALUE;
        Pitch p = w.pitches.get(number);
        return new int[] {p.rent, p.days, p.rents, holder(number)}[what];
    }

    int count(int what) {
        if (!in(what, 0, 19)) return BAD_VALUE;
        if (in(what, 8, 17)) return w.set[what - 8];
        int had = (int) w.carts.stream().filter(c -> c.pitch != NONE).count();
        if (what >= 18) return what == 18 ? had : w.swapsDone;
        return new int[] {w.today, w.carts.size(), w.pitches.size(), w.x, waiting(), w.swaps.size(), pad.length(), history.size()}[what];
    }

    int pointsOn(int c, int day) {
        if (!cartIs(c)) return NO_SUCH;
        if (!in(day, w.today, w.today + 400)) return BAD_VALUE;
        return points(w.carts.get(c), day);
    }

    int wouldHave(int c) {
        if (!cartIs(c)) return NO_SUCH;
        World kept = w;
        w = kept.copy();
        day();
        int got = w.carts.get(c).pitch;
        w = kept;
        return got;
    }

    int ifWished(int c, int p) {
        if (!cartIs(c) || !pitchIs(p)) return NO_SUCH;
        World kept = w;
        w = kept.copy();
        w.carts.get(c).wishes = List.of(p);
        int got = wouldHave(c);
        w = kept;
        return got;
    }

    private String had(int c, int days) {
        World kept = w;
        w = kept.copy();
        StringBuilder had = new StringBuilder();
        for (int i = 0; i < days; i++) {
            day();
            had.append(w.carts.get(c).pitch == NONE ? '-' : '+');
        }
        w = kept;
        return had.toString();
    }

    int firstDay(int c) {
        if (!cartIs(c)) return NO_SUCH;
        int first = had(c, 60).indexOf('+');
        return first < 0 ? NONE : first;
    }

    int daysOf(int c, int days) {
        if (!cartIs(c)) return NO_SUCH;
        if (!in(days, 1, 60)) return BAD_VALUE;
        return had(c, days).replace("-", "").length();
    }

    int luckySeed(int c, int p) {
        if (!cartIs(c) || p != NONE && !pitchIs(p)) return NO_SUCH;
        int kept = w.x;
        int lucky = NONE;
        for (int seed = 199; seed >= 0; seed--) {
            w.x = seed;
            int got = wouldHave(c);
            if (got != NONE && (p == NONE || p == got)) lucky = seed;
        }
        w.x = kept;
        return lucky;
    }

    int whyNot(int c, int p) {
        if (!cartIs(c) || !pitchIs(p)) return NO_SUCH;
        if (holder(p) != NONE && holder(p) != c) return 1;
        for (int other = 0; other < w.carts.size(); other++) {
            Cart o = w.carts.get(other);
            if (other != c && o.kind == w.carts.get(c).kind && o.pitch != NONE && Math.abs(o.pitch - p) == 1) return 2;
        }
        return 0;
    }

    int put(long characters) {
        byte[] bytes = java.nio.ByteBuffer.allocate(8).putLong(characters).array();
        String text = new String(bytes, java.nio.charset.StandardCharsets.ISO_8859_1).replaceFirst("^\0+", "");
        if (!text.matches("[!-~]{1,8}")) return BAD_VALUE;
        if (pad.length() + text.length() > 80) return TOO_MANY;
        pad += text;
        return pad.length();
    }

    int wipe() {
        int was = pad.length();
        pad = "";
        return was;
    }

    int fault() {
        for (int i = 0; i < pad.length(); i++) if (!canGoOn(pad.substring(0, i + 1))) return i;
        return TEXT.matcher(pad).matches() ? NONE : pad.length();
    }

    private static boolean canGoOn(String text) {
        for (String rest : new String[] {"", "cA", "A", "A1", "1", "AA", "0"}) if (TEXT.matcher(text + rest).matches()) return true;
        return false;
    }

    int carryOut() {
        if (fault() != NONE) return BAD_TEXT;
        record(w.copy());
        int done = 0;
        for (String order : pad.split(";")) {
            if (carryOut(order) < 0) break;
            done++;
        }
        pad = "";
        return done;
    }

    private int carryOut(String order) {
        String rest = order.substring(1);
        if (order.charAt(0) == 'd') return daysNow(Integer.parseInt(rest));
        int c = rest.charAt(0) - 'A';
        if (order.charAt(0) == 'f') return fineNow(c, Integer.parseInt(rest.substring(1)));
        if (order.charAt(0) == 'c') return checkNow(c);
        if (order.charAt(0) == 's') return swapNow(c, rest.charAt(1) - 'A');
        int[] told = {NONE, NONE, NONE};
        for (int i = 1; i < rest.length(); i++) told[i - 1] = rest.charAt(i) - '0';
        return wishNow(c, told);
    }

    int undo() {
        if (history.isEmpty()) return NOT_POSSIBLE;
        w = history.remove(history.size() - 1);
        return history.size();
    }

    int save(int slot) {
        if (!in(slot, 0, 1)) return BAD_VALUE;
        slots[slot] = w.copy();
        return w.today;
    }

    int restore(int slot) {
        if (!in(slot, 0, 1)) return BAD_VALUE;
        if (slots[slot] == null) return NOT_POSSIBLE;
        record(w.copy());
        w = slots[slot].copy();
        return w.today;
    }
}
