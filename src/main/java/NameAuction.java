import java.util.Arrays;

/** A registry of names with auctions, leases and disputes, beside resolvers that keep answers. */
public final class NameAuction {
    private static final int OWNERS = 6;
    private static final int NAMES = 16;
    private static final int RESOLVERS = 3;

    /** Stands for no owner, no day and no answer. */
    private static final int NONE = -1;

    private static final int FREE = 0;
    private static final int AUCTION = 1;
    private static final int LEASED = 2;
    private static final int GRACE = 3;
    private static final int REDEMPTION = 4;
    private static final int FROZEN = 5;

    private static final int MOST_DEPOSITED = 100000;
    private static final int LEAST_BID = 10;
    private static final int MOST_BID = 100000;
    private static final int MOST_HUNDREDS = 5;
    private static final int MOST_RECORD = 999;
    private static final int MOST_LIFETIME = 50;
    private static final int MOST_DAYS_PASSED = 200;

    private static final int PRICE_WITHOUT_RIVAL = 10;
    private static final int PRICE_OF_HUNDRED = 20;
    private static final int PRICE_OF_REDEEMING = 50;

    private static final int AUCTION_DAYS = 5;
    private static final int LEASE_DAYS = 100;
    private static final int DAYS_OF_HUNDRED = 100;
    private static final int GRACE_DAYS = 10;
    private static final int REDEMPTION_DAYS = 10;
    private static final int FARTHEST_END = 600;

    private static final int FIRST_RECORD = 0;
    private static final int FIRST_LIFETIME = 10;
    private static final int LIFETIME_OF_NOTHING = 5;

    private final int[] money = new int[OWNERS];
    private final Name[] names = new Name[NAMES];
    private final Resolver[] resolvers = new Resolver[RESOLVERS];
    private int day;
    private int paid;
    private int bidsMade;

    public NameAuction() {
        for (int i = 0; i < NAMES; i++) {
            names[i] = new Name();
        }
        for (int i = 0; i < RESOLVERS; i++) {
            resolvers[i] = new Resolver();
        }
    }

    // ---- money and auctions

    public int deposit(int owner, int amount) throws IndexOutOfBoundsException, IllegalArgumentException {
        checkIndex(owner, OWNERS);
        checkRange(amount, 1, MOST_DEPOSITED);
        money[owner] += amount;
        return money[owner];
    }

    public int funds(int owner) throws IndexOutOfBoundsException {
        checkIndex(owner, OWNERS);
        return money[owner];
    }

    public int bid(int owner, int name, int amount)
            throws IndexOutOfBoundsException, IllegalArgumentException, IllegalStateException {
        checkIndex(owner, OWNERS);
        checkIndex(name, NAMES);
        checkRange(amount, LEAST_BID, MOST_BID);
        Name wanted = names[name];
        checkPossible(wanted.phase == FREE || wanted.phase == AUCTION);
        if (wanted.phase == FREE) {
            wanted.beginAuction(day);
        }
        bidsMade++;
        wanted.amounts[owner] = amount;
        wanted.turns[owner] = bidsMade;
        return wanted.closing;
    }

    public int bids(int name) throws IndexOutOfBoundsException {
        checkIndex(name, NAMES);
        return names[name].countBids();
    }

    // ---- leases

    public int renew(int name, int hundreds)
            throws IndexOutOfBoundsException, IllegalArgumentException, IllegalStateException {
        checkIndex(name, NAMES);
        checkRange(hundreds, 1, MOST_HUNDREDS);
        Name renewed = names[name];
        int end = renewed.end + hundreds * DAYS_OF_HUNDRED;
        int price = hundreds * PRICE_OF_HUNDRED;
        checkPossible(isHeld(renewed.phase) && end <= day + FARTHEST_END && canPay(renewed.holder, price));
        pay(renewed.holder, price);
        renewed.end = end;
        renewed.phase = LEASED;
        return end;
    }

    public int redeem(int name) throws IndexOutOfBoundsException, IllegalStateException {
        checkIndex(name, NAMES);
        Name redeemed = names[name];
        checkPossible(redeemed.phase == REDEMPTION && canPay(redeemed.holder, PRICE_OF_REDEEMING));
        pay(redeemed.holder, PRICE_OF_REDEEMING);
        redeemed.leaseTo(redeemed.holder, day);
        return redeemed.end;
    }

    public int setRecord(int name, int record, int lifetime)
            throws IndexOutOfBoundsException, IllegalArgumentException, IllegalStateException {
        checkIndex(name, NAMES);
        checkRange(record, 0, MOST_RECORD);
        checkRange(lifetime, 1, MOST_LIFETIME);
        Name changed = names[name];
        checkPossible(changed.phase == LEASED);
        int before = changed.record;
        changed.record = record;
        changed.lifetime = lifetime;
        return before;
    }

    public int state(int name) throws IndexOutOfBoundsException {
        checkIndex(name, NAMES);
        return names[name].phase;
    }

    public char sign(int name, int place) throws IndexOutOfBoundsException {
        checkIndex(name, NAMES);
        Name told = names[name];
        String word = wordOf(told.phase);
        int ownerPlace = word.length() + 1;
        checkIndex(place, told.holder == NONE ? word.length() : ownerPlace + 1);
        if (place < word.length()) {
            return word.charAt(place);
        }
        return place == ownerPlace ? (char) ('0' + told.holder) : ':';
    }

    public int owner(int name) throws IndexOutOfBoundsException {
        checkIndex(name, NAMES);
        return names[name].holder;
    }

    public int next(int name) throws IndexOutOfBoundsException {
        checkIndex(name, NAMES);
        return names[name].dayOfChange();
    }

    // ---- disputes

    public int dispute(int challenger, int name) throws IndexOutOfBoundsException, IllegalStateException {
        checkIndex(challenger, OWNERS);
        checkIndex(name, NAMES);
        Name disputed = names[name];
        int before = disputed.phase;
        checkPossible((before == AUCTION || isHeld(before)) && disputed.holder != challenger);
        disputed.freeze(challenger, day);
        return before;
    }

    public int decide(int name, boolean isForChallenger) throws IndexOutOfBoundsException, IllegalStateException {
        checkIndex(name, NAMES);
        Name decided = names[name];
        checkPossible(decided.phase == FROZEN);
        decided.thaw(isForChallenger, day);
        return decided.phase;
    }

    // ---- days and resolvers

    public int pass(int days) throws IllegalArgumentException {
        checkRange(days, 1, MOST_DAYS_PASSED);
        int won = 0;
        for (int i = 0; i < days; i++) {
            day++;
            won += changeNames();
        }
        return won;
    }

    public int today() {
        return day;
    }

    public int takings() {
        return paid;
    }

    public int lookUp(int resolver, int name) throws IndexOutOfBoundsException {
        checkIndex(resolver, RESOLVERS);
        checkIndex(name, NAMES);
        Resolver asked = resolvers[resolver];
        if (!asked.isFresh(name, day)) {
            asked.keep(name, names[name].answer(), names[name].answerLifetime(), day);
        }
        return asked.answers[name];
    }

    public boolean isStale(int resolver, int name) throws IndexOutOfBoundsException {
        checkIndex(resolver, RESOLVERS);
        checkIndex(name, NAMES);
        Resolver asked = resolvers[resolver];
        return asked.isFresh(name, day) && asked.answers[name] != names[name].answer();
    }

    public int flush(int resolver) throws IndexOutOfBoundsException {
        checkIndex(resolver, RESOLVERS);
        return resolvers[resolver].forgetAll();
    }

    private static void checkIndex(int index, int count) {
        if (index < 0 || index >= count) {
            throw new IndexOutOfBoundsException();
        }
    }

    private static void checkRange(int value, int least, int most) {
        if (value < least || value > most) {
            throw new IllegalArgumentException();
        }
    }

    private static void checkPossible(boolean isPossible) {
        if (!isPossible) {
            throw new IllegalStateException();
        }
    }

    private static boolean isHeld(int phase) {
        return phase == LEASED || phase == GRACE;
    }

    private static String wordOf(int phase) {
        switch (phase) {
            case AUCTION:
                return "auction";
            case LEASED:
                return "leased";
            case GRACE:
                return "grace";
            case REDEMPTION:
                return "redemption";
            case FROZEN:
                return "frozen";
            default:
                return "free";
        }
    }

    private boolean canPay(int payer, int price) {
        return payer >= 0 && payer < OWNERS && money[payer] >= price;
    }

    private void pay(int payer, int price) {
        if (canPay(payer, price)) {
            money[payer] -= price;
            paid += price;
        }
    }

    /** Lets the names whose day is today go on, and counts the auctions won. */
    private int changeNames() {
        int won = 0;
        for (int i = 0; i < NAMES; i++) {
            Name name = names[i];
            if (name.dayOfChange() != day) {
                continue;
            }
            if (name.phase != AUCTION) {
                name.goOn();
            } else if (closeAuction(name)) {
                won++;
            }
        }
        return won;
    }

    private boolean closeAuction(Name name) {
        int winner = bestBidder(name, NONE);
        if (winner == NONE) {
            name.release();
            return false;
        }
        int rival = bestBidder(name, winner);
        // No bid is below 10, so a rival's amount never is.
        pay(winner, rival == NONE ? PRICE_WITHOUT_RIVAL : name.amounts[rival]);
        name.leaseTo(winner, day);
        return true;
    }

    /** The owner of the best bid that its funds cover, leaving one owner out. */
    private int bestBidder(Name name, int leftOut) {
        int best = NONE;
        for (int i = 0; i < OWNERS; i++) {
            boolean counts = i != leftOut && name.amounts[i] > 0 && canPay(i, name.amounts[i]);
            if (counts && (best == NONE || name.isAhead(i, best))) {
                best = i;
            }
        }
        return best;
    }

    /** What the registry holds of one name. */
    private static final class Name {
        private int phase = FREE;
        /** None unless a lease stands, or did until the redemption. */
        private int holder = NONE;
        private int closing;
        private int end;
        private int record;
        private int lifetime;
        private int phaseBefore;
        private int challenger;
        private int frozenOn;
        /** By owner; 0 where there is no bid. */
        private final int[] amounts = new int[OWNERS];
        /** By owner; a later bid has a greater number. */
        private final int[] turns = new int[OWNERS];

        private void beginAuction(int today) {
            phase = AUCTION;
            closing = today + AUCTION_DAYS;
        }

        private void leaseTo(int lessee, int today) {
            dropBids();
            phase = LEASED;
            holder = lessee;
            end = today + LEASE_DAYS;
            record = FIRST_RECORD;
            lifetime = FIRST_LIFETIME;
        }

        private void release() {
            dropBids();
            phase = FREE;
            holder = NONE;
        }

        private void goOn() {
            if (phase == LEASED) {
                phase = GRACE;
            } else if (phase == GRACE) {
                phase = REDEMPTION;
            } else {
                release();
            }
        }

        private int dayOfChange() {
            switch (phase) {
                case AUCTION:
                    return closing;
                case LEASED:
                    return end;
                case GRACE:
                    return end + GRACE_DAYS;
                case REDEMPTION:
                    return end + GRACE_DAYS + REDEMPTION_DAYS;
                default:
                    return NONE;
            }
        }

        private void freeze(int disputer, int today) {
            dropBids();
            phaseBefore = phase;
            phase = FROZEN;
            challenger = disputer;
            frozenOn = today;
        }

        private void thaw(boolean isForChallenger, int today) {
            if (phaseBefore != AUCTION) {
                phase = phaseBefore;
                end += today - frozenOn;
                holder = isForChallenger ? challenger : holder;
            } else if (isForChallenger) {
                leaseTo(challenger, today);
            } else {
                release();
            }
        }

        private int countBids() {
            int count = 0;
            for (int i = 0; i < OWNERS; i++) {
                count += amounts[i] > 0 ? 1 : 0;
            }
            return count;
        }

        private void dropBids() {
            Arrays.fill(amounts, 0);
        }

        private boolean isAhead(int one, int other) {
            if (amounts[one] != amounts[other]) {
                return amounts[one] > amounts[other];
            }
            return turns[one] < turns[other];
        }

        private boolean hasRecord() {
            return isHeld(phase == FROZEN ? phaseBefore : phase);
        }

        private int answer() {
            return hasRecord() ? record : NONE;
        }

        private int answerLifetime() {
            return hasRecord() ? lifetime : LIFETIME_OF_NOTHING;
        }
    }

    /** What one resolver keeps, by name. */
    private static final class Resolver {
        private final boolean[] kept = new boolean[NAMES];
        private final int[] answers = new int[NAMES];
        private final int[] lifetimes = new int[NAMES];
        private final int[] takenOn = new int[NAMES];

        private boolean isFresh(int name, int today) {
            return kept[name] && today - takenOn[name] < lifetimes[name];
        }

        private void keep(int name, int answer, int lifetime, int today) {
            kept[name] = true;
            answers[name] = answer;
            lifetimes[name] = lifetime;
            takenOn[name] = today;
        }

        private int forgetAll() {
            int count = 0;
            for (int i = 0; i < NAMES; i++) {
                count += kept[i] ? 1 : 0;
                kept[i] = false;
            }
            return count;
        }
    }
}
