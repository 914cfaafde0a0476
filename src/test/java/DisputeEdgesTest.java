/** The edges of promises 13 and 14 and of the disputes: a test for each sentence of the document that has one. */
public final class DisputeEdgesTest {
    private static final Checks check = new Checks();

    public static void main(String[] args) {
        disputeChallengers();
        disputeNames();
        disputeReturnsTheStateBefore();
        disputeOnTheDaysOfChange();
        disputeWhereNotPossible();
        disputeOfOnesOwn();
        disputeOfAnAuctionByAnyone();
        disputedAuctionIsVoid();
        noDayCountsForAFrozenLease();
        noDayCountsForAFrozenGrace();
        noDayCountsForAFrozenAuction();

        decideNames();
        decideReturnsTheStateThen();
        decideWhereNotFrozen();
        decidedAuctionIsFree();
        decidedAuctionForTheChallenger();
        decidedAuctionCostsNothing();
        decidedLeaseEndsLater();
        decidedGraceEndsLater();
        decidedOnTheDayOfTheDispute();
        decidedForTheChallengerBelongsToIt();
        disputedTwice();
        frozenForLong();
        check.end();
    }

    private static void disputeChallengers() {
        check.about("13: challenger 0 to 5, else IndexOutOfBoundsException");
        for (int challenger = 1; challenger < 6; challenger++) {
            check.is(2, Given.leased().dispute(challenger, 0));
        }
        for (int challenger = 0; challenger < 6; challenger++) {
            check.is(1, Given.inAuction().dispute(challenger, 0));
        }
        NameAuction x = Given.leased();
        for (int challenger : Given.NOT_OWNERS) {
            check.noSuch(() -> x.dispute(challenger, 0));
        }
        check.is(2, x.state(0));
        NameAuction y = Given.inAuction();
        for (int challenger : Given.NOT_OWNERS) {
            check.noSuch(() -> y.dispute(challenger, 0));
        }
        check.is(1, y.bids(0));
    }

    private static void disputeNames() {
        check.about("13: name 0 to 15, else IndexOutOfBoundsException");
        NameAuction x = Given.inAuction();
        x.bid(0, 15, 10);
        for (int name : Given.NOT_NAMES) {
            check.noSuch(() -> x.dispute(1, name));
        }
        check.is(1, x.dispute(1, 0));
        check.is(1, x.state(15));
        check.is(1, x.dispute(1, 15));
        check.is(5, x.state(15));
    }

    private static void disputeReturnsTheStateBefore() {
        check.about("13: returns its state before");
        NameAuction[] each = {Given.inAuction(), Given.leased(), Given.inGrace()};
        for (int i = 0; i < each.length; i++) {
            check.is(i + 1, each[i].dispute(5, 0));
            check.is(5, each[i].state(0));
        }
    }

    private static void disputeOnTheDaysOfChange() {
        check.about("13: the first and the last day on which a dispute is possible");
        NameAuction lastOfAuction = Given.inAuction();
        lastOfAuction.pass(4);
        check.is(1, lastOfAuction.dispute(1, 0));
        int[] days = {5, 104, 105, 114};
        int[] states = {2, 2, 3, 3};
        for (int i = 0; i < days.length; i++) {
            check.is(states[i], Given.leasedOnDay(days[i]).dispute(1, 0));
        }
        for (int day : new int[] {115, 124, 125}) {
            NameAuction x = Given.leasedOnDay(day);
            check.notNow(() -> x.dispute(1, 0));
        }
    }

    private static void disputeWhereNotPossible() {
        check.about("13: IllegalStateException if it is neither in an auction, nor leased, nor in grace");
        NameAuction[] others = {new NameAuction(), Given.inRedemption(), Given.freeAgain(), Given.frozenAuction(),
            Given.frozenLease(), Given.frozenGrace()};
        for (NameAuction x : others) {
            int before = x.state(0);
            for (int owner = 0; owner < 6; owner++) {
                int challenger = owner;
                check.notNow(() -> x.dispute(challenger, 0));
            }
            check.is(before, x.state(0));
        }
    }

    private static void disputeOfOnesOwn() {
        check.about("13: IllegalStateException if it belongs to the challenger");
        NameAuction[] each = {Given.leased(), Given.inGrace()};
        for (NameAuction x : each) {
            int before = x.state(0);
            check.notNow(() -> x.dispute(0, 0));
            check.is(before, x.state(0));
            x.dispute(5, 0);
            x.decide(0, true);
            check.notNow(() -> x.dispute(5, 0));
            check.is(before, x.dispute(0, 0));
            x.decide(0, false);
            check.notNow(() -> x.dispute(5, 0));
        }
    }

    private static void disputeOfAnAuctionByAnyone() {
        check.about("13: a name in an auction belongs to nobody");
        check.is(1, Given.inAuction().dispute(0, 0));
        NameAuction again = Given.freeAgain();
        again.bid(1, 0, 10);
        check.is(1, again.dispute(0, 0));
    }

    private static void disputedAuctionIsVoid() {
        check.about("Terms: if it was in an auction, that is void, and all bids are gone");
        NameAuction x = Given.rich();
        for (int owner = 0; owner < 6; owner++) {
            x.bid(owner, 0, 100 + owner);
        }
        x.pass(4);
        check.is(6, x.bids(0));
        x.dispute(0, 0);
        check.is(0, x.bids(0));
        check.is(0, x.pass(1));
        check.is(5, x.state(0));
        x.decide(0, false);
        check.is(0, x.bids(0));
        check.is(0, x.pass(10));
        for (int owner = 0; owner < 6; owner++) {
            check.is(1000, x.funds(owner));
        }
        check.is(0, x.takings());
        // A new auction knows nothing of the old bids.
        check.is(20, x.bid(0, 0, 10));
        check.is(1, x.bids(0));
        check.is(1, x.pass(5));
        check.is(0, x.owner(0));
        check.is(990, x.funds(0));
    }

    private static void noDayCountsForAFrozenLease() {
        check.about("Terms: while it is frozen, no day counts for it (leased)");
        NameAuction x = Given.leasedOnDay(104);
        x.dispute(1, 0);
        x.pass(1);
        check.is(5, x.state(0));
        check.is(-1, x.next(0));
        x.pass(200);
        check.is(5, x.state(0));
        check.is(2, x.decide(0, false));
        check.is(306, x.next(0));
        check.is(2, x.state(0));
        x.pass(1);
        check.is(3, x.state(0));
    }

    private static void noDayCountsForAFrozenGrace() {
        check.about("Terms: while it is frozen, no day counts for it (in grace)");
        NameAuction x = Given.leasedOnDay(114);
        x.dispute(1, 0);
        x.pass(1);
        check.is(5, x.state(0));
        x.pass(200);
        check.is(5, x.state(0));
        check.is(3, x.decide(0, false));
        check.is(316, x.next(0));
        x.pass(1);
        check.is(4, x.state(0));
        check.is(326, x.next(0));
        x.pass(9);
        check.is(4, x.state(0));
        x.pass(1);
        check.is(0, x.state(0));
    }

    private static void noDayCountsForAFrozenAuction() {
        check.about("Terms: while it is frozen, no day counts for it (auction)");
        NameAuction x = Given.frozenAuction();
        for (int i = 0; i < 6; i++) {
            check.is(0, x.pass(1));
            check.is(5, x.state(0));
            check.is(-1, x.next(0));
        }
    }

    private static void decideNames() {
        check.about("14: name 0 to 15, else IndexOutOfBoundsException");
        NameAuction x = Given.inAuction();
        x.bid(0, 15, 10);
        x.dispute(1, 0);
        x.dispute(2, 15);
        for (int name : Given.NOT_NAMES) {
            check.noSuch(() -> x.decide(name, true));
            check.noSuch(() -> x.decide(name, false));
        }
        check.is(2, x.decide(15, true));
        check.is(5, x.state(0));
        check.is(0, x.decide(0, false));
        check.is(2, x.owner(15));
    }

    private static void decideReturnsTheStateThen() {
        check.about("14: returns its state then");
        check.is(0, Given.frozenAuction().decide(0, false));
        check.is(2, Given.frozenAuction().decide(0, true));
        check.is(2, Given.frozenLease().decide(0, false));
        check.is(2, Given.frozenLease().decide(0, true));
        check.is(3, Given.frozenGrace().decide(0, false));
        check.is(3, Given.frozenGrace().decide(0, true));
    }

    private static void decideWhereNotFrozen() {
        check.about("14: IllegalStateException if it is not frozen");
        NameAuction[] others = {new NameAuction(), Given.inAuction(), Given.leased(), Given.inGrace(),
            Given.inRedemption(), Given.freeAgain()};
        for (NameAuction x : others) {
            int before = x.state(0);
            check.notNow(() -> x.decide(0, true));
            check.notNow(() -> x.decide(0, false));
            check.is(before, x.state(0));
        }
        NameAuction[] decided = {Given.frozenAuction(), Given.frozenLease(), Given.frozenGrace()};
        for (NameAuction x : decided) {
            x.decide(0, true);
            check.notNow(() -> x.decide(0, true));
            check.notNow(() -> x.decide(0, false));
        }
    }

    private static void decidedAuctionIsFree() {
        check.about("Terms: when the dispute is decided, a name that was in an auction is free");
        NameAuction x = Given.frozenAuction();
        x.pass(2);
        check.is(0, x.decide(0, false));
        check.is(-1, x.owner(0));
        check.is(-1, x.next(0));
        check.isText("free", Given.text(x, 0));
        check.is(7, x.bid(1, 0, 10));
        check.is(1, x.pass(5));
        check.is(1, x.owner(0));
    }

    private static void decidedAuctionForTheChallenger() {
        check.about("Terms: or leased to the challenger for 100 days from today");
        NameAuction sameDay = Given.frozenAuction();
        sameDay.decide(0, true);
        check.is(100, sameDay.next(0));
        NameAuction x = Given.frozenAuction();
        x.pass(7);
        check.is(2, x.decide(0, true));
        check.is(1, x.owner(0));
        check.is(107, x.next(0));
        Given.passTo(x, 106);
        check.is(2, x.state(0));
        x.pass(1);
        check.is(3, x.state(0));
    }

    private static void decidedAuctionCostsNothing() {
        check.about("Terms: for nothing");
        NameAuction x = new NameAuction();
        x.bid(0, 0, 10);
        x.dispute(1, 0);
        check.is(2, x.decide(0, true));
        check.is(0, x.funds(1));
        check.is(0, x.takings());
        check.is(0, x.pass(10));
        check.is(0, x.takings());
    }

    private static void decidedLeaseEndsLater() {
        check.about("Terms: any other one is leased as before, the end later by the days for which it was frozen");
        for (int days : new int[] {1, 2, 99, 100, 101, 200}) {
            NameAuction x = Given.frozenLease();
            x.pass(days);
            check.is(2, x.decide(0, days % 2 == 0));
            check.is(105 + days, x.next(0));
            Given.passTo(x, 104 + days);
            check.is(2, x.state(0));
            x.pass(1);
            check.is(3, x.state(0));
        }
    }

    private static void decidedGraceEndsLater() {
        check.about("Terms: any other one is in grace as before, the end later by the days for which it was frozen");
        for (int days : new int[] {1, 9, 10, 11, 200}) {
            NameAuction x = Given.frozenGrace();
            x.pass(days);
            check.is(3, x.decide(0, days % 2 == 0));
            check.is(115 + days, x.next(0));
            check.is(205 + days, x.renew(0, 1));
        }
    }

    private static void decidedOnTheDayOfTheDispute() {
        check.about("Terms: a dispute of no day leaves the end");
        for (boolean isForChallenger : new boolean[] {false, true}) {
            NameAuction lease = Given.frozenLease();
            lease.decide(0, isForChallenger);
            check.is(105, lease.next(0));
            NameAuction grace = Given.frozenGrace();
            grace.decide(0, isForChallenger);
            check.is(115, grace.next(0));
        }
    }

    private static void decidedForTheChallengerBelongsToIt() {
        check.about("Terms: belongs to the challenger, if it is decided for the challenger");
        for (int challenger = 1; challenger < 6; challenger++) {
            for (boolean isForChallenger : new boolean[] {false, true}) {
                int owner = isForChallenger ? challenger : 0;
                NameAuction lease = Given.leased();
                lease.dispute(challenger, 0);
                check.is(0, lease.owner(0));
                lease.decide(0, isForChallenger);
                check.is(owner, lease.owner(0));
                NameAuction grace = Given.inGrace();
                grace.dispute(challenger, 0);
                check.is(0, grace.owner(0));
                grace.decide(0, isForChallenger);
                check.is(owner, grace.owner(0));
                check.is(1000, grace.funds(challenger));
                check.is(10, grace.takings());
            }
        }
    }

    private static void disputedTwice() {
        check.about("Terms: the days of each dispute count once");
        NameAuction x = Given.frozenLease();
        x.pass(3);
        x.decide(0, false);
        check.is(108, x.next(0));
        x.pass(10);
        x.dispute(2, 0);
        x.pass(4);
        x.decide(0, true);
        check.is(112, x.next(0));
        check.is(2, x.owner(0));
    }

    private static void frozenForLong() {
        check.about("Terms: a name stays frozen until it is decided");
        NameAuction x = Given.frozenLease();
        Given.passTo(x, 5005);
        check.is(5, x.state(0));
        check.is(2, x.decide(0, true));
        check.is(5105, x.next(0));
        NameAuction y = Given.frozenAuction();
        Given.passTo(y, 5000);
        check.is(5, y.state(0));
        check.is(2, y.decide(0, true));
        check.is(5100, y.next(0));
    }
}
