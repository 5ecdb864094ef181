/** Pitches for food carts in a row, drawn by lots day by day. The document DOC.md says what each call promises. */
public final class CartPitches {
    /** Error codes; NONE is no error: there is none. */
    public static final int NO_SUCH = -1, BAD_VALUE = -2, BAD_TEXT = -3, TOO_MANY = -4, NOT_POSSIBLE = -5, NONE = -6;

    /** Settings. */
    public static final int TICKETS = 0, VALID = 1, CHECKS = 2, LIMIT = 3, BAN = 4, LAPSE = 5, FINE = 6, ABSENT = 7, OPEN = 8, SWAP = 9;

    private static final int SETTINGS = 10;
    private static final int[] FIRST_VALUE = {8, 60, 2, 12, 14, 90, 500, 2, 11, 200};
    private static final int[] LEAST_VALUE = {1, 1, 1, 3, 1, 1, 0, 0, 6, 0};
    private static final int[] MOST_VALUE = {20, 200, 8, 30, 60, 200, 10000, 9, 14, 5000};

    private static final int MOST_PITCHES = 10;
    private static final int MOST_CARTS = 16;
    private static final int MOST_WISHES = 3;
    private static final int MOST_SWAPS = 8;
    private static final int MOST_RENT = 20000;
    private static final int MOST_KIND = 5;
    private static final int MOST_HOURS = 6;
    private static final int MOST_POINTS = 9;
    private static final int MOST_CENTS = 1000000;
    private static final int MOST_DAYS = 60;
    private static final int DAYS_AHEAD = 400;
    private static final int LOTS_MODULUS = 65537;
    private static final int LUCKY_SEEDS = 200;
    private static final int MOST_SIGNS = 80;
    private static final int SIGNS_A_PUT = 8;
    private static final int KEPT_CHANGES = 6;
    private static final int SLOTS = 2;

    /** The greatest LAPSE: points of earlier days never count again, whatever LAPSE becomes. */
    private static final int KEPT_DAYS = 200;

    private static final int HAD_A_PITCH = 0, NO_WISHES = 1, NO_VALID_CHECK = 2, BANNED = 3, NO_PITCH_DRAWN = 4, NO_KITCHEN = 5;

    private final State now = new State();
    private final State trial = new State();
    private final History history = new History();
    private final State firstSlot = new State();
    private final State secondSlot = new State();
    private final Pad pad = new Pad();

    public CartPitches() {
    }

    // ---- setting up

    public int set(int setting, int value) {
        history.prepare(now);
        return recorded(now.changeSetting(setting, value));
    }

    public int seed(int seed) {
        history.prepare(now);
        return recorded(now.changeLots(seed));
    }

    public int pitch(int rent) {
        history.prepare(now);
        return recorded(now.addPitch(rent));
    }

    public int rent(int pitch, int rent) {
        history.prepare(now);
        return recorded(now.changeRent(pitch, rent));
    }

    public int cart(int kind, int hours) {
        history.prepare(now);
        return recorded(now.addCart(kind, hours));
    }

    // ---- what carts do, and what is done to them

    public int wish(int cart, int first, int second, int third) {
        history.prepare(now);
        return recorded(now.tellWishes(cart, first, second, third));
    }

    public int fine(int cart, int points) {
        history.prepare(now);
        return recorded(now.punish(cart, points));
    }

    public int check(int cart) {
        history.prepare(now);
        return recorded(now.askCheck(cart));
    }

    public int swap(int cart, int other) {
        history.prepare(now);
        return recorded(now.askSwap(cart, other));
    }

    public int pay(int cart, int cents) {
        history.prepare(now);
        return recorded(now.takeMoney(cart, cents));
    }

    public int days(int days) {
        history.prepare(now);
        return recorded(now.passDays(days));
    }

    /** A method that is a change answers an error code below 0, or 0 and more: only then the state before it counts. */
    private int recorded(int answer) {
        if (answer >= 0) {
            history.keepPrepared();
        }
        return answer;
    }

    // ---- what there is

    public int ofCart(int cart, int what) {
        if (!now.hasCart(cart)) {
            return NO_SUCH;
        }
        if (what < 0 || what > 15) {
            return BAD_VALUE;
        }
        Cart asked = now.carts[cart];
        return what < 9 ? aboutCart(asked, what) : aboutPastOfCart(asked, what);
    }

    private int aboutCart(Cart asked, int what) {
        switch (what) {
            case 0:
                return asked.kind;
            case 1:
                return asked.hours;
            case 2:
                return asked.wishCount;
            case 3:
            case 4:
            case 5:
                return asked.wishAt(what - 3);
            case 6:
                return asked.losses;
            case 7:
                return asked.validUpTo;
            default:
                return asked.waits ? 1 : 0;
        }
    }

    private int aboutPastOfCart(Cart asked, int what) {
        switch (what) {
            case 9:
                return asked.pointsLeft(now.today, now.today, now.settings[LAPSE]);
            case 10:
                return asked.bannedUpTo;
            case 11:
                return asked.daysWithPitch;
            case 12:
                return asked.pitch;
            case 13:
                return asked.kitchenHour;
            case 14:
                return asked.reason;
            default:
                return asked.place;
        }
    }

    public long money(int cart, int what) {
        if (!now.hasCart(cart)) {
            return NO_SUCH;
        }
        Cart asked = now.carts[cart];
        switch (what) {
            case 0:
                return asked.balance();
            case 1:
                return asked.paidIn;
            case 2:
                return asked.rents;
            case 3:
                return asked.fines;
            case 4:
                return asked.swapFees;
            default:
                return BAD_VALUE;
        }
    }

    public int ofPitch(int pitch, int what) {
        if (!now.hasPitch(pitch)) {
            return NO_SUCH;
        }
        Pitch asked = now.pitches[pitch];
        switch (what) {
            case 0:
                return asked.price;
            case 1:
                return asked.daysTaken;
            case 2:
                return asked.rentsPaid;
            case 3:
                return asked.holder;
            default:
                return BAD_VALUE;
        }
    }

    public int count(int what) {
        if (what >= 8 && what < 8 + SETTINGS) {
            return now.settings[what - 8];
        }
        switch (what) {
            case 0:
                return now.today;
            case 1:
                return now.cartCount;
            case 2:
                return now.pitchCount;
            case 3:
                return now.lots;
            case 4:
                return now.countWaiting();
            case 5:
                return now.swapCount;
            case 6:
                return pad.length;
            case 7:
                return history.kept;
            case 18:
                return now.countOnPitches();
            case 19:
                return now.swapsDone;
            default:
                return BAD_VALUE;
        }
    }

    public int pointsOn(int cart, int day) {
        if (!now.hasCart(cart)) {
            return NO_SUCH;
        }
        if (day < now.today || day > now.today + DAYS_AHEAD) {
            return BAD_VALUE;
        }
        return now.carts[cart].pointsLeft(day, now.today, now.settings[LAPSE]);
    }

    // ---- what if; nothing changes

    public int wouldHave(int cart) {
        if (!now.hasCart(cart)) {
            return NO_SUCH;
        }
        trial.copyFrom(now);
        return pitchOnTrialDay(cart);
    }

    public int ifWished(int cart, int pitch) {
        if (!now.hasCart(cart) || !now.hasPitch(pitch)) {
            return NO_SUCH;
        }
        trial.copyFrom(now);
        trial.tellWishes(cart, pitch, NONE, NONE);
        return pitchOnTrialDay(cart);
    }

    public int firstDay(int cart) {
        if (!now.hasCart(cart)) {
            return NO_SUCH;
        }
        trial.copyFrom(now);
        for (int day = 0; day < MOST_DAYS; day++) {
            if (pitchOnTrialDay(cart) != NONE) {
                return day;
            }
        }
        return NONE;
    }

    public int daysOf(int cart, int days) {
        if (!now.hasCart(cart)) {
            return NO_SUCH;
        }
        if (days < 1 || days > MOST_DAYS) {
            return BAD_VALUE;
        }
        trial.copyFrom(now);
        int having = 0;
        for (int day = 0; day < days; day++) {
            if (pitchOnTrialDay(cart) != NONE) {
                having++;
            }
        }
        return having;
    }

    public int luckySeed(int cart, int pitch) {
        if (!now.hasCart(cart) || (pitch != NONE && !now.hasPitch(pitch))) {
            return NO_SUCH;
        }
        for (int seed = 0; seed < LUCKY_SEEDS; seed++) {
            trial.copyFrom(now);
            trial.changeLots(seed);
            int got = pitchOnTrialDay(cart);
            if (got != NONE && (pitch == NONE || got == pitch)) {
                return seed;
            }
        }
        return NONE;
    }

    public int whyNot(int cart, int pitch) {
        if (!now.hasCart(cart) || !now.hasPitch(pitch)) {
            return NO_SUCH;
        }
        int holder = now.pitches[pitch].holder;
        if (holder != NONE && holder != cart) {
            return 1;
        }
        return now.sameKindBeside(cart, pitch) ? 2 : 0;
    }

    /** Lets a day of the trial pass; the cart has to be there. */
    private int pitchOnTrialDay(int cart) {
        trial.passDays(1);
        return trial.hasCart(cart) ? trial.carts[cart].pitch : NONE;
    }

    // ---- texts

    public int put(long characters) {
        return pad.append(characters);
    }

    public int wipe() {
        int length = pad.length;
        pad.length = 0;
        return length;
    }

    public int fault() {
        return pad.findFault();
    }

    public int carryOut() {
        if (pad.findFault() != NONE) {
            return BAD_TEXT;
        }
        history.prepare(now);
        int done = 0;
        int begin = 0;
        for (int end = 0; end <= pad.length; end++) {
            if (!pad.endsOrder(end)) {
                continue;
            }
            if (performOrder(begin, end) < 0) {
                break;
            }
            done++;
            begin = end + 1;
        }
        pad.length = 0;
        return recorded(done);
    }

    private int performOrder(int begin, int end) {
        int cart = pad.signAt(begin + 1) - 'A';
        switch (pad.signAt(begin)) {
            case 'w':
                return now.tellWishes(cart, pad.wishAt(begin + 2, end), pad.wishAt(begin + 3, end), pad.wishAt(begin + 4, end));
            case 'f':
                return now.punish(cart, pad.numberAt(begin + 2, end));
            case 'c':
                return now.askCheck(cart);
            case 's':
                return now.askSwap(cart, pad.signAt(begin + 2) - 'A');
            default:
                return now.passDays(pad.numberAt(begin + 1, end));
        }
    }

    // ---- undo, saving

    public int undo() {
        if (history.kept == 0) {
            return NOT_POSSIBLE;
        }
        history.takeBack(now);
        return history.kept;
    }

    public int save(int slot) {
        if (slot < 0 || slot >= SLOTS) {
            return BAD_VALUE;
        }
        State kept = slot == 0 ? firstSlot : secondSlot;
        kept.copyFrom(now);
        kept.saved = true;
        return now.today;
    }

    public int restore(int slot) {
        if (slot < 0 || slot >= SLOTS) {
            return BAD_VALUE;
        }
        State kept = slot == 0 ? firstSlot : secondSlot;
        if (!kept.saved) {
            return NOT_POSSIBLE;
        }
        history.prepare(now);
        now.copyFrom(kept);
        return recorded(now.today);
    }

    /** A pitch, and who had it on the last day that passed. */
    private static final class Pitch {
        int price;
        int daysTaken;
        int rentsPaid;
        int holder;

        void begin(int rent) {
            price = rent;
            daysTaken = 0;
            rentsPaid = 0;
            holder = NONE;
        }

        void copyFrom(Pitch other) {
            price = other.price;
            daysTaken = other.daysTaken;
            rentsPaid = other.rentsPaid;
            holder = other.holder;
        }
    }

    /** A cart, and what happened to it on the last day that passed. */
    private static final class Cart {
        int kind;
        int hours;
        int wishCount;
        int losses;
        int validUpTo;
        boolean waits;
        int bannedUpTo;
        int daysWithPitch;
        int pitch;
        int kitchenHour;
        int reason;
        int place;
        long paidIn;
        long rents;
        long fines;
        long swapFees;
        final int[] wishes = new int[MOST_WISHES];
        /** The points given on each of the last KEPT_DAYS days: those of a day stand at the day's remainder. */
        final int[] points = new int[KEPT_DAYS];

        void begin(int itsKind, int itsHours, int itsCheck) {
            kind = itsKind;
            hours = itsHours;
            validUpTo = itsCheck;
            wishCount = 0;
            losses = 0;
            waits = false;
            bannedUpTo = NONE;
            daysWithPitch = 0;
            paidIn = 0;
            rents = 0;
            fines = 0;
            swapFees = 0;
            dropAllPoints();
            beginDay();
        }

        void beginDay() {
            pitch = NONE;
            kitchenHour = NONE;
            reason = HAD_A_PITCH;
            place = NONE;
        }

        void copyFrom(Cart other) {
            kind = other.kind;
            hours = other.hours;
            wishCount = other.wishCount;
            losses = other.losses;
            validUpTo = other.validUpTo;
            waits = other.waits;
            bannedUpTo = other.bannedUpTo;
            daysWithPitch = other.daysWithPitch;
            pitch = other.pitch;
            kitchenHour = other.kitchenHour;
            reason = other.reason;
            place = other.place;
            paidIn = other.paidIn;
            rents = other.rents;
            fines = other.fines;
            swapFees = other.swapFees;
            System.arraycopy(other.wishes, 0, wishes, 0, MOST_WISHES);
            System.arraycopy(other.points, 0, points, 0, KEPT_DAYS);
        }

        long balance() {
            return paidIn - rents - fines - swapFees;
        }

        int wishAt(int index) {
            return index >= 0 && index < wishCount && index < MOST_WISHES ? wishes[index] : NONE;
        }

        void addPoints(int day, int given) {
            int spot = day % KEPT_DAYS;
            if (spot >= 0) {
                points[spot] += given;
            }
        }

        /** The spot of a day that begins still holds what was given KEPT_DAYS days earlier. */
        void dropPointsOfSameSpot(int day) {
            int spot = day % KEPT_DAYS;
            if (spot >= 0) {
                points[spot] = 0;
            }
        }

        void dropAllPoints() {
            for (int spot = 0; spot < KEPT_DAYS; spot++) {
                points[spot] = 0;
            }
        }

        /** The points given up to today that have not lapsed on a day from today on. */
        int pointsLeft(int day, int today, int lapse) {
            int left = 0;
            for (int back = 0; back < lapse && back < KEPT_DAYS; back++) {
                int given = day - back;
                if (given >= 0 && given <= today) {
                    left += points[given % KEPT_DAYS];
                }
            }
            return left;
        }

        /** Why the cart takes no part in the lots of a day; NO_PITCH_DRAWN, if it takes part and nothing was drawn yet. */
        int reasonBeforeLots(int today) {
            if (wishCount == 0) {
                return NO_WISHES;
            }
            if (validUpTo < today) {
                return NO_VALID_CHECK;
            }
            return bannedUpTo >= today ? BANNED : NO_PITCH_DRAWN;
        }
    }

    /** Everything that undo takes back and that a slot keeps. */
    private static final class State {
        int today;
        int lots = 1;
        int pitchCount;
        int cartCount;
        int swapCount;
        int swapsDone;
        /** Whether a slot holds something; it belongs to the slot, and is not copied. */
        boolean saved;
        final int[] settings = new int[SETTINGS];
        final Pitch[] pitches = new Pitch[MOST_PITCHES];
        final Cart[] carts = new Cart[MOST_CARTS];
        final int[] swapCart = new int[MOST_SWAPS];
        final int[] swapOther = new int[MOST_SWAPS];
        /** The tickets of those who were not drawn yet, and the carts in the order in which they were: only used while a day passes. */
        final int[] tickets = new int[MOST_CARTS];
        final int[] drawn = new int[MOST_CARTS];
        int drawnCount;

        State() {
            for (int setting = 0; setting < SETTINGS; setting++) {
                settings[setting] = FIRST_VALUE[setting];
            }
            for (int pitch = 0; pitch < MOST_PITCHES; pitch++) {
                pitches[pitch] = new Pitch();
            }
            for (int cart = 0; cart < MOST_CARTS; cart++) {
                carts[cart] = new Cart();
            }
        }

        void copyFrom(State other) {
            today = other.today;
            lots = other.lots;
            pitchCount = other.pitchCount;
            cartCount = other.cartCount;
            swapCount = other.swapCount;
            swapsDone = other.swapsDone;
            System.arraycopy(other.settings, 0, settings, 0, SETTINGS);
            System.arraycopy(other.swapCart, 0, swapCart, 0, MOST_SWAPS);
            System.arraycopy(other.swapOther, 0, swapOther, 0, MOST_SWAPS);
            // What stands behind the counts is never read: addPitch and addCart begin it anew.
            for (int pitch = 0; pitch < pitchCount; pitch++) {
                pitches[pitch].copyFrom(other.pitches[pitch]);
            }
            for (int cart = 0; cart < cartCount; cart++) {
                carts[cart].copyFrom(other.carts[cart]);
            }
        }

        boolean hasCart(int cart) {
            return cart >= 0 && cart < cartCount && cart < MOST_CARTS;
        }

        boolean hasPitch(int pitch) {
            return pitch >= 0 && pitch < pitchCount && pitch < MOST_PITCHES;
        }

        int changeSetting(int setting, int value) {
            if (setting < 0 || setting >= SETTINGS || value < LEAST_VALUE[setting] || value > MOST_VALUE[setting]) {
                return BAD_VALUE;
            }
            int previous = settings[setting];
            settings[setting] = value;
            return previous;
        }

        int changeLots(int seed) {
            if (seed < 0 || seed >= LOTS_MODULUS) {
                return BAD_VALUE;
            }
            int previous = lots;
            lots = seed;
            return previous;
        }

        int addPitch(int rent) {
            if (rent < 0 || rent > MOST_RENT) {
                return BAD_VALUE;
            }
            if (pitchCount >= MOST_PITCHES) {
                return TOO_MANY;
            }
            pitches[pitchCount].begin(rent);
            pitchCount++;
            return pitchCount - 1;
        }

        int changeRent(int pitch, int rent) {
            if (!hasPitch(pitch)) {
                return NO_SUCH;
            }
            if (rent < 0 || rent > MOST_RENT) {
                return BAD_VALUE;
            }
            int previous = pitches[pitch].price;
            pitches[pitch].price = rent;
            return previous;
        }

        int addCart(int kind, int hours) {
            if (kind < 0 || kind > MOST_KIND || hours < 1 || hours > MOST_HOURS) {
                return BAD_VALUE;
            }
            if (cartCount >= MOST_CARTS) {
                return TOO_MANY;
            }
            carts[cartCount].begin(kind, hours, today + settings[VALID]);
            cartCount++;
            return cartCount - 1;
        }

        int tellWishes(int cart, int first, int second, int third) {
            if (!hasCart(cart)) {
                return NO_SUCH;
            }
            if (!isPitchOrNone(first) || !isPitchOrNone(second) || !isPitchOrNone(third)) {
                return BAD_VALUE;
            }
            int told = first == NONE ? 0 : second == NONE ? 1 : third == NONE ? 2 : 3;
            if (told >= 2 && first == second || told == 3 && (first == third || second == third)) {
                return BAD_VALUE;
            }
            Cart teller = carts[cart];
            teller.wishCount = told;
            teller.wishes[0] = first;
            teller.wishes[1] = second;
            teller.wishes[2] = third;
            return told;
        }

        boolean isPitchOrNone(int pitch) {
            return pitch == NONE || hasPitch(pitch);
        }

        int punish(int cart, int points) {
            if (!hasCart(cart)) {
                return NO_SUCH;
            }
            if (points < 1 || points > MOST_POINTS) {
                return BAD_VALUE;
            }
            return givePoints(carts[cart], points);
        }

        int givePoints(Cart cart, int points) {
            cart.fines += (long) points * settings[FINE];
            cart.addPoints(today, points);
            int has = cart.pointsLeft(today, today, settings[LAPSE]);
            if (has < settings[LIMIT]) {
                return has;
            }
            cart.bannedUpTo = today + settings[BAN];
            cart.dropAllPoints();
            return 0;
        }

        int askCheck(int cart) {
            if (!hasCart(cart)) {
                return NO_SUCH;
            }
            if (carts[cart].waits) {
                return NOT_POSSIBLE;
            }
            carts[cart].waits = true;
            return countWaiting();
        }

        int askSwap(int cart, int other) {
            if (!hasCart(cart) || !hasCart(other) || cart == other) {
                return NO_SUCH;
            }
            if (swapCount >= MOST_SWAPS) {
                return TOO_MANY;
            }
            swapCart[swapCount] = cart;
            swapOther[swapCount] = other;
            swapCount++;
            return swapCount;
        }

        int takeMoney(int cart, int cents) {
            if (!hasCart(cart)) {
                return NO_SUCH;
            }
            if (cents < 1 || cents > MOST_CENTS) {
                return BAD_VALUE;
            }
            carts[cart].paidIn += cents;
            return carts[cart].balance() >= 0 ? 1 : 0;
        }

        int passDays(int days) {
            if (days < 1 || days > MOST_DAYS) {
                return BAD_VALUE;
            }
            for (int day = 0; day < days; day++) {
                Day.runChecks(this);
                Day.clearLastDay(this);
                Day.drawLots(this);
                Day.shareKitchens(this);
                Day.makeSwaps(this);
                Day.trade(this);
                beginNextDay();
            }
            return today;
        }

        private void beginNextDay() {
            today++;
            for (int cart = 0; cart < cartCount; cart++) {
                carts[cart].dropPointsOfSameSpot(today);
            }
        }

        int countWaiting() {
            int waiting = 0;
            for (int cart = 0; cart < cartCount; cart++) {
                if (carts[cart].waits) {
                    waiting++;
                }
            }
            return waiting;
        }

        int countOnPitches() {
            int having = 0;
            for (int cart = 0; cart < cartCount; cart++) {
                if (carts[cart].pitch != NONE) {
                    having++;
                }
            }
            return having;
        }

        /** Whether another cart of the cart's kind has a pitch side by side with the pitch. */
        boolean sameKindBeside(int cart, int pitch) {
            if (!hasCart(cart)) {
                return false;
            }
            for (int beside = pitch - 1; beside <= pitch + 1; beside += 2) {
                int holder = hasPitch(beside) ? pitches[beside].holder : NONE;
                if (holder != cart && hasCart(holder) && carts[holder].kind == carts[cart].kind) {
                    return true;
                }
            }
            return false;
        }

        void seat(int cart, int pitch) {
            if (hasCart(cart) && hasPitch(pitch)) {
                pitches[pitch].holder = cart;
                carts[cart].pitch = pitch;
            }
        }

        void unseat(Cart cart) {
            if (hasPitch(cart.pitch)) {
                pitches[cart.pitch].holder = NONE;
            }
            cart.pitch = NONE;
        }
    }

    /** The steps of a day, in the document's order. */
    private static final class Day {
        static void runChecks(State state) {
            for (int checked = 0; checked < state.settings[CHECKS]; checked++) {
                Cart next = nextToCheck(state);
                if (next == null) {
                    return;
                }
                next.validUpTo = state.today + state.settings[VALID];
                next.waits = false;
            }
        }

        private static Cart nextToCheck(State state) {
            Cart next = null;
            for (int cart = 0; cart < state.cartCount; cart++) {
                Cart waiting = state.carts[cart];
                if (waiting.waits && (next == null || waiting.validUpTo < next.validUpTo)) {
                    next = waiting;
                }
            }
            return next;
        }

        static void clearLastDay(State state) {
            for (int pitch = 0; pitch < state.pitchCount; pitch++) {
                state.pitches[pitch].holder = NONE;
            }
            for (int cart = 0; cart < state.cartCount; cart++) {
                state.carts[cart].beginDay();
            }
        }

        static void drawLots(State state) {
            int all = handOutTickets(state);
            state.drawnCount = 0;
            for (int place = 0; all > 0 && place < state.cartCount; place++) {
                state.lots = (75 * state.lots + 74) % LOTS_MODULUS;
                int cart = holderOfTicket(state, state.lots % all);
                if (!state.hasCart(cart)) {
                    return;
                }
                all -= state.tickets[cart];
                state.tickets[cart] = 0;
                state.drawn[place] = cart;
                state.drawnCount = place + 1;
                state.carts[cart].place = place;
                choosePitch(state, cart);
            }
        }

        /** Returns how many tickets there are. */
        private static int handOutTickets(State state) {
            int all = 0;
            for (int number = 0; number < state.cartCount; number++) {
                Cart cart = state.carts[number];
                cart.reason = cart.reasonBeforeLots(state.today);
                boolean takesPart = cart.reason == NO_PITCH_DRAWN;
                state.tickets[number] = takesPart ? Math.min(1 + cart.losses, state.settings[TICKETS]) : 0;
                all += state.tickets[number];
            }
            return all;
        }

        private static int holderOfTicket(State state, int ticket) {
            int counted = 0;
            for (int cart = 0; cart < state.cartCount; cart++) {
                counted += state.tickets[cart];
                if (ticket < counted) {
                    return cart;
                }
            }
            return NONE;
        }

        private static void choosePitch(State state, int cart) {
            if (!state.hasCart(cart)) {
                return;
            }
            Cart drawn = state.carts[cart];
            for (int wish = 0; wish < drawn.wishCount; wish++) {
                int pitch = drawn.wishAt(wish);
                if (state.hasPitch(pitch) && state.pitches[pitch].holder == NONE && !state.sameKindBeside(cart, pitch)) {
                    state.seat(cart, pitch);
                    drawn.reason = HAD_A_PITCH;
                    return;
                }
            }
        }

        /** The earliest hours are taken each time, so a kitchen has no gaps: it is free from its last taken hour on. */
        static void shareKitchens(State state) {
            int lowerFree = 0;
            int upperFree = 0;
            for (int place = 0; place < state.drawnCount; place++) {
                int number = state.drawn[place];
                if (!state.hasCart(number) || state.carts[number].pitch == NONE) {
                    continue;
                }
                Cart cart = state.carts[number];
                int begin = Math.min(lowerFree, upperFree);
                if (begin + cart.hours > state.settings[OPEN]) {
                    state.unseat(cart);
                    cart.reason = NO_KITCHEN;
                    if (state.settings[ABSENT] > 0) {
                        state.givePoints(cart, state.settings[ABSENT]);
                    }
                    continue;
                }
                cart.kitchenHour = begin;
                if (begin == lowerFree) {
                    lowerFree += cart.hours;
                } else {
                    upperFree += cart.hours;
                }
            }
        }

        static void makeSwaps(State state) {
            for (int swap = 0; swap < state.swapCount; swap++) {
                int cart = state.swapCart[swap];
                int other = state.swapOther[swap];
                if (exchange(state, cart, other)) {
                    state.carts[cart].swapFees += state.settings[SWAP];
                    state.carts[other].swapFees += state.settings[SWAP];
                    state.swapsDone++;
                }
            }
            state.swapCount = 0;
        }

        private static boolean exchange(State state, int cart, int other) {
            if (!state.hasCart(cart) || !state.hasCart(other)) {
                return false;
            }
            int pitch = state.carts[cart].pitch;
            int otherPitch = state.carts[other].pitch;
            if (!state.hasPitch(pitch) || !state.hasPitch(otherPitch)) {
                return false;
            }
            state.seat(cart, otherPitch);
            state.seat(other, pitch);
            if (state.sameKindBeside(cart, otherPitch) || state.sameKindBeside(other, pitch)) {
                state.seat(cart, pitch);
                state.seat(other, otherPitch);
                return false;
            }
            return true;
        }

        /** Who took part has a place among the drawn. */
        static void trade(State state) {
            for (int number = 0; number < state.cartCount; number++) {
                Cart cart = state.carts[number];
                if (state.hasPitch(cart.pitch)) {
                    Pitch pitch = state.pitches[cart.pitch];
                    cart.rents += pitch.price;
                    cart.daysWithPitch++;
                    cart.losses = 0;
                    pitch.rentsPaid += pitch.price;
                    pitch.daysTaken++;
                } else if (cart.place != NONE) {
                    cart.losses++;
                }
            }
        }
    }

    /** The states before the latest changes, in a ring with one row more than are kept: the state before a call that is under way. */
    private static final class History {
        static final int ROWS = KEPT_CHANGES + 1;
        final State[] rows = new State[ROWS];
        int oldest;
        int kept;

        History() {
            for (int row = 0; row < ROWS; row++) {
                rows[row] = new State();
            }
        }

        void prepare(State state) {
            rows[(oldest + kept) % ROWS].copyFrom(state);
        }

        void keepPrepared() {
            if (kept < KEPT_CHANGES) {
                kept++;
            } else {
                oldest = (oldest + 1) % ROWS;
            }
        }

        void takeBack(State state) {
            if (kept > 0) {
                kept--;
                state.copyFrom(rows[(oldest + kept) % ROWS]);
            }
        }
    }

    /** The text of orders: text = order { ";" order }. */
    private static final class Pad {
        /** What may stand next: 0 to 3 digits and then an order's end, or just one thing. */
        static final int AT_END = 0, ONE_DIGIT = 1, THREE_DIGITS = 3;
        static final int ORDER = 4, CART_OF_WISH = 5, CART_OF_FINE = 6, POINTS = 7, FIRST_CART = 8, LAST_CART = 9, NUMBER = 10;
        static final int NOTHING = 11;

        final char[] signs = new char[MOST_SIGNS];
        int length;

        int append(long characters) {
            int given = countGiven(characters);
            if (given < 1) {
                return BAD_VALUE;
            }
            if (length + given > MOST_SIGNS) {
                return TOO_MANY;
            }
            for (int behind = given - 1; behind >= 0; behind--) {
                signs[length] = (char) codeAt(characters, behind);
                length++;
            }
            return length;
        }

        /** How many characters there are; BAD_VALUE if one is not allowed, or something stands above the end. */
        private static int countGiven(long characters) {
            int given = 0;
            for (int behind = 0; behind < SIGNS_A_PUT; behind++) {
                int code = codeAt(characters, behind);
                if (code == 0) {
                    continue;
                }
                if (code < 33 || code > 126 || given < behind) {
                    return BAD_VALUE;
                }
                given++;
            }
            return given;
        }

        private static int codeAt(long characters, int behind) {
            return (int) (characters >>> (8 * behind)) & 255;
        }

        int signAt(int index) {
            return index >= 0 && index < length && index < MOST_SIGNS ? signs[index] : 0;
        }

        int findFault() {
            int awaited = ORDER;
            for (int index = 0; index < length; index++) {
                awaited = awaitedBehind(awaited, signAt(index));
                if (awaited == NOTHING) {
                    return index;
                }
            }
            return awaited <= THREE_DIGITS ? NONE : length;
        }

        private static int awaitedBehind(int awaited, int sign) {
            switch (awaited) {
                case ORDER:
                    return awaitedBehindOrder(sign);
                case CART_OF_WISH:
                    return isCart(sign) ? THREE_DIGITS : NOTHING;
                case CART_OF_FINE:
                    return isCart(sign) ? POINTS : NOTHING;
                case POINTS:
                    return sign >= '1' && sign <= '9' ? AT_END : NOTHING;
                case FIRST_CART:
                    return isCart(sign) ? LAST_CART : NOTHING;
                case LAST_CART:
                    return isCart(sign) ? AT_END : NOTHING;
                case NUMBER:
                    return !isDigit(sign) ? NOTHING : sign == '0' ? AT_END : ONE_DIGIT;
                default:
                    return sign == ';' ? ORDER : awaited > AT_END && isDigit(sign) ? awaited - 1 : NOTHING;
            }
        }

        private static int awaitedBehindOrder(int sign) {
            switch (sign) {
                case 'w':
                    return CART_OF_WISH;
                case 'f':
                    return CART_OF_FINE;
                case 'c':
                    return LAST_CART;
                case 's':
                    return FIRST_CART;
                case 'd':
                    return NUMBER;
                default:
                    return NOTHING;
            }
        }

        private static boolean isCart(int sign) {
            return sign >= 'A' && sign <= 'P';
        }

        private static boolean isDigit(int sign) {
            return sign >= '0' && sign <= '9';
        }

        /** Whether an order ends before the index: a ';' stands there, or the text is over. */
        boolean endsOrder(int index) {
            return index == length || signAt(index) == ';';
        }

        int wishAt(int index, int end) {
            return index < end ? signAt(index) - '0' : NONE;
        }

        int numberAt(int begin, int end) {
            int number = 0;
            for (int index = begin; index < end; index++) {
                number = 10 * number + signAt(index) - '0';
            }
            return number;
        }
    }
}
