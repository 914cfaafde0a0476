/** Registries in the situations from which tests start, and what many tests need. */
final class Given {
    static final int FREE = 0;
    static final int AUCTION = 1;
    static final int LEASED = 2;
    static final int GRACE = 3;
    static final int REDEMPTION = 4;
    static final int FROZEN = 5;

    static final int[] NOT_OWNERS = {-1, 6, Integer.MAX_VALUE, Integer.MIN_VALUE};
    static final int[] NOT_NAMES = {-1, 16, Integer.MAX_VALUE, Integer.MIN_VALUE};
    static final int[] NOT_RESOLVERS = {-1, 3, Integer.MAX_VALUE, Integer.MIN_VALUE};

    private Given() {
    }

    /** Days that pass refuses; those that would hardly end without its limit only where it has one. */
    static int[] notDays() {
        try {
            new NameAuction().pass(201);
            return new int[] {0, -1, 201, Integer.MIN_VALUE};
        } catch (IllegalArgumentException e) {
            return new int[] {0, -1, 201, Integer.MAX_VALUE, Integer.MIN_VALUE};
        }
    }

    /** Day 0; every owner has 1000. */
    static NameAuction rich() {
        NameAuction x = new NameAuction();
        for (int owner = 0; owner < 6; owner++) {
            x.deposit(owner, 1000);
        }
        return x;
    }

    /** Day 0; name 0 is in an auction until day 5, with a bid of 10 by owner 0. */
    static NameAuction inAuction() {
        NameAuction x = rich();
        x.bid(0, 0, 10);
        return x;
    }

    /** Day 5; owner 0 has leased name 0 for 10 until day 105, and has 990. */
    static NameAuction leased() {
        NameAuction x = inAuction();
        x.pass(5);
        return x;
    }

    /** Day 5; owner 0 has leased name 0 until day 105, and has what is told; the others have nothing. */
    static NameAuction leasedWith(int left) {
        NameAuction x = new NameAuction();
        x.deposit(0, left + 10);
        x.bid(0, 0, 10);
        x.pass(5);
        return x;
    }

    /** Day 105, the first one of name 0 in grace. */
    static NameAuction inGrace() {
        NameAuction x = leased();
        x.pass(100);
        return x;
    }

    /** Day 115, the first one of name 0 in redemption. */
    static NameAuction inRedemption() {
        NameAuction x = inGrace();
        x.pass(10);
        return x;
    }

    /** Day 125, the first one on which name 0 is free after its lease. */
    static NameAuction freeAgain() {
        NameAuction x = inRedemption();
        x.pass(10);
        return x;
    }

    /** Day 0; the auction of name 0 is disputed by owner 1. */
    static NameAuction frozenAuction() {
        NameAuction x = inAuction();
        x.dispute(1, 0);
        return x;
    }

    /** Day 5; the lease of name 0 by owner 0 is disputed by owner 1. */
    static NameAuction frozenLease() {
        NameAuction x = leased();
        x.dispute(1, 0);
        return x;
    }

    /** Day 105; name 0, in grace and of owner 0, is disputed by owner 1. */
    static NameAuction frozenGrace() {
        NameAuction x = inGrace();
        x.dispute(1, 0);
        return x;
    }

    static void passTo(NameAuction x, int day) {
        while (x.today() < day) {
            x.pass(Math.min(200, day - x.today()));
        }
    }

    /** The registry of leased(), on a later day. */
    static NameAuction leasedOnDay(int day) {
        NameAuction x = leased();
        passTo(x, day);
        return x;
    }

    /** All characters that sign tells of a name, up to the first place that does not exist. */
    static String text(NameAuction x, int name) {
        StringBuilder text = new StringBuilder();
        for (int place = 0; place < 100; place++) {
            try {
                text.append(x.sign(name, place));
            } catch (IndexOutOfBoundsException e) {
                return text.toString();
            }
        }
        return text.toString();
    }
}
