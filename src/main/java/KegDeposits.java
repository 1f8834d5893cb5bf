/** Deposits on kegs, crates and bottles: the program to the promises of ../shared/DOC.md. */
public final class KegDeposits {
    public static final int NONE = -1;
    public static final int FULL = -2;

    private static final int REFUSED = -2;
    private static final int HOUSE = 0;
    private static final int MOST_PARTIES = 24;
    private static final int MOST_KINDS = 12;
    private static final int MOST_PRICES = 20;
    private static final int MOST_LAYERS = 400;
    private static final int MOST_MOVES = 512;
    private static final int MOST_DIVISIONS = 100;
    private static final long LAST_DAY = 100_000L;
    private static final long MOST_PIECES = 100_000L;
    private static final long MOST_CENTS = 100_000L;
    private static final long WHOLE = 10_000L;
    private static final long DAYS_OF_MONTH = 30L;

    private final Party house;
    private final Party[] parties;
    private final Kind[] kinds;
    private Transfer latestTransfer;
    private int movesDone;
    private long clock;

    public KegDeposits() {
        house = new Party();
        parties = new Party[MOST_PARTIES];
        kinds = new Kind[MOST_KINDS];
        parties[HOUSE] = house;
    }

    public int party() {
        for (int number = 0; number < parties.length; number++) {
            if (parties[number] == null) {
                parties[number] = new Party();
                return number;
            }
        }
        return FULL;
    }

    public int kind() {
        for (int number = 0; number < kinds.length; number++) {
            if (kinds[number] == null) {
                kinds[number] = new Kind();
                return number;
            }
        }
        return FULL;
    }

    public boolean price(int kind, long day, long cents) {
        Kind priced = kindAt(kind);
        if (priced == null || !isDay(day) || cents < 0 || cents > MOST_CENTS) {
            return false;
        }
        return priced.tellPrice(day, cents);
    }

    public boolean out(int party, int kind, long n, long day) {
        Party taker = customerAt(party);
        Kind taken = kindAt(kind);
        if (taker == null || taken == null || !isNumber(n) || !mayMoveOn(day)
                || layersInUse() >= MOST_LAYERS) {
            return false;
        }
        long cents = taken.priceOn(day);
        taker.addLayer(new Layer(taken, day, n, cents));
        move(day, n * cents, taker, house);
        return true;
    }

    public boolean back(int party, int kind, long n, long day) {
        Party giver = customerAt(party);
        Kind given = kindAt(kind);
        if (giver == null || given == null || !isNumber(n) || !mayMoveOn(day)
                || giver.piecesUpTo(given, LAST_DAY) < n) {
            return false;
        }
        move(day, giver.giveBack(given, n), house, giver);
        return true;
    }

    public boolean sampled(int party, long n, long day) {
        Party giver = customerAt(party);
        if (giver == null || !isNumber(n) || !mayMoveOn(day)
                || !sharesMakeOne() || !hasLot(giver, n)) {
            return false;
        }
        move(day, giveBackLot(giver, n), house, giver);
        return true;
    }

    public boolean share(int kind, long above, long below) {
        Kind shared = kindAt(kind);
        // above is held against below first, so that above * WHOLE can't wrap around
        if (shared == null || below < 1 || below > WHOLE || above < 0 || above > below
                || above * WHOLE % below != 0) {
            return false;
        }
        shared.shareParts = above * WHOLE / below;
        return true;
    }

    public long balance(int party, long day) {
        Party owner = partyAt(party);
        return owner == null ? 0 : balanceOf(owner, day);
    }

    public long count(int party, int kind) {
        Party holder = partyAt(party);
        Kind held = kindAt(kind);
        return holder == null || held == null ? NONE : holder.piecesUpTo(held, LAST_DAY);
    }

    public long lost(int kind, int months) {
        Kind missed = kindAt(kind);
        if (missed == null || months < 0) {
            return NONE;
        }
        long lastDay = clock - months * DAYS_OF_MONTH;
        long pieces = 0;
        for (int i = 0; i < parties.length; i++) {
            Party holder = parties[i];
            if (holder != null) {
                pieces += holder.piecesUpTo(missed, lastDay);
            }
        }
        return pieces;
    }

    public int settle(int a, int b, int month) {
        Party first = customerAt(a);
        Party second = customerAt(b);
        long day = month * DAYS_OF_MONTH;
        if (first == null || second == null || first == second || !mayMoveOn(day)) {
            return REFUSED;
        }
        long difference = worthOf(first, day) - worthOf(second, day);
        boolean firstPays = difference > 0;
        long cents = Math.abs(difference) / 2;
        move(day, cents, firstPays ? first : second, firstPays ? second : first);
        if (cents == 0) {
            return 0;
        }
        return firstPays ? 1 : -1;
    }

    public long rest(int kind, int part) {
        Kind parted = kindAt(kind);
        if (parted == null || part < 0 || part > 1) {
            return NONE;
        }
        long divisor = commonDivisor(WHOLE, parted.restParts);
        if (divisor < 1) {
            return NONE;
        }
        return part == 0 ? parted.restParts / divisor : WHOLE / divisor;
    }

    public long sum(long day) {
        long cents = 0;
        for (int i = 0; i < parties.length; i++) {
            Party owner = parties[i];
            if (owner != null) {
                cents += balanceOf(owner, day);
            }
        }
        return cents;
    }

    private Party partyAt(int number) {
        return number >= 0 && number < parties.length ? parties[number] : null;
    }

    /** A party that is not the house; null when there is none. */
    private Party customerAt(int number) {
        return number == HOUSE ? null : partyAt(number);
    }

    private Kind kindAt(int number) {
        return number >= 0 && number < kinds.length ? kinds[number] : null;
    }

    private static boolean isDay(long day) {
        return day >= 0 && day <= LAST_DAY;
    }

    private static boolean isNumber(long n) {
        return n >= 1 && n <= MOST_PIECES;
    }

    // An object's promised calls can't do MOST_MOVES moves; what is kept ends there all the same.
    private boolean mayMoveOn(long day) {
        return isDay(day) && day >= clock && movesDone < MOST_MOVES;
    }

    private void move(long day, long cents, Party payer, Party taker) {
        latestTransfer = new Transfer(day, cents, payer, taker, latestTransfer);
        movesDone++;
        clock = day;
    }

    private long balanceOf(Party owner, long lastDay) {
        long cents = 0;
        for (Transfer done = latestTransfer; done != null; done = done.earlier) {
            if (done.day <= lastDay) {
                cents += done.changeOf(owner);
            }
        }
        return cents;
    }

    private int layersInUse() {
        int layers = 0;
        for (int i = 0; i < parties.length; i++) {
            Party holder = parties[i];
            if (holder != null) {
                layers += holder.layersInUse();
            }
        }
        return layers;
    }

    private boolean sharesMakeOne() {
        long parts = 0;
        for (int i = 0; i < kinds.length; i++) {
            Kind shared = kinds[i];
            if (shared != null) {
                parts += shared.shareParts;
            }
        }
        return parts == WHOLE;
    }

    private boolean hasLot(Party giver, long n) {
        for (int i = 0; i < kinds.length; i++) {
            Kind given = kinds[i];
            if (given != null && giver.piecesUpTo(given, LAST_DAY) < given.partsOfLot(n) / WHOLE) {
                return false;
            }
        }
        return true;
    }

    /** The worth of the lot, which the giver must have. */
    private long giveBackLot(Party giver, long n) {
        long cents = 0;
        for (int i = 0; i < kinds.length; i++) {
            Kind given = kinds[i];
            if (given != null) {
                long parts = given.partsOfLot(n);
                cents += giver.giveBack(given, parts / WHOLE);
                given.restParts = parts % WHOLE;
            }
        }
        return cents;
    }

    private long worthOf(Party holder, long day) {
        long cents = 0;
        for (int i = 0; i < kinds.length; i++) {
            Kind held = kinds[i];
            if (held != null) {
                cents += holder.piecesUpTo(held, LAST_DAY) * held.priceOn(day);
            }
        }
        return cents;
    }

    // The counter only shows the loop's end: numbers up to WHOLE need fewer divisions.
    private static long commonDivisor(long one, long other) {
        long greater = one;
        long smaller = other;
        for (int i = 0; i < MOST_DIVISIONS && smaller != 0; i++) {
            long left = greater % smaller;
            greater = smaller;
            smaller = left;
        }
        return greater;
    }

    private static final class Party {
        private Layer oldest;
        private Layer newest;

        // The clock never goes back, so the layer that went out last is the newest one by day too.
        void addLayer(Layer layer) {
            if (newest == null) {
                oldest = layer;
            } else {
                newest.younger = layer;
            }
            newest = layer;
        }

        /** The pieces of a kind that went out on a day or before it and are still out. */
        long piecesUpTo(Kind kind, long lastDay) {
            long pieces = 0;
            for (Layer layer = oldest; layer != null; layer = layer.younger) {
                if (layer.kind == kind && layer.day <= lastDay) {
                    pieces += layer.pieces;
                }
            }
            return pieces;
        }

        /** Takes n pieces of a kind, of which there must be so many, and answers their worth. */
        long giveBack(Kind kind, long n) {
            long missing = n;
            long cents = 0;
            for (Layer layer = oldest; layer != null; layer = layer.younger) {
                if (layer.kind == kind) {
                    long taken = Math.min(missing, layer.pieces);
                    layer.pieces -= taken;
                    missing -= taken;
                    cents += taken * layer.cents;
                }
            }
            return cents;
        }

        int layersInUse() {
            int layers = 0;
            for (Layer layer = oldest; layer != null; layer = layer.younger) {
                if (layer.pieces > 0) {
                    layers++;
                }
            }
            return layers;
        }
    }

    /** Pieces of a kind that went out together, each at the same price. */
    private static final class Layer {
        private final Kind kind;
        private final long day;
        private final long cents;
        private long pieces;
        private Layer younger;

        Layer(Kind kind, long day, long pieces, long cents) {
            this.kind = kind;
            this.day = day;
            this.pieces = pieces;
            this.cents = cents;
        }
    }

    private static final class Kind {
        private Price prices;
        private long shareParts;
        private long restParts;

        boolean tellPrice(long day, long cents) {
            int others = 0;
            for (Price told = prices; told != null; told = told.next) {
                if (told.day == day) {
                    told.cents = cents;
                    return true;
                }
                others++;
            }
            if (others >= MOST_PRICES) {
                return false;
            }
            prices = new Price(day, cents, prices);
            return true;
        }

        long priceOn(long day) {
            long latestDay = NONE;
            long cents = 0;
            for (Price told = prices; told != null; told = told.next) {
                if (told.day <= day && told.day > latestDay) {
                    latestDay = told.day;
                    cents = told.cents;
                }
            }
            return cents;
        }

        long partsOfLot(long n) {
            return restParts + n * shareParts;
        }
    }

    /** What a piece costs from a day on; the prices of a kind are chained in no order of days. */
    private static final class Price {
        private final long day;
        private final Price next;
        private long cents;

        Price(long day, long cents, Price next) {
            this.day = day;
            this.cents = cents;
            this.next = next;
        }
    }

    /** What one party's balance fell by and another one's rose by on a day. */
    private static final class Transfer {
        private final long day;
        private final long cents;
        private final Party payer;
        private final Party taker;
        private final Transfer earlier;

        Transfer(long day, long cents, Party payer, Party taker, Transfer earlier) {
            this.day = day;
            this.cents = cents;
            this.payer = payer;
            this.taker = taker;
            this.earlier = earlier;
        }

        long changeOf(Party party) {
            if (party == payer) {
                return -cents;
            }
            return party == taker ? cents : 0;
        }
    }
}
