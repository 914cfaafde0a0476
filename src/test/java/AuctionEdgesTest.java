/** The edges of promises 1 to 5 and of the auctions: a test for each sentence of the document that has one. */
public final class AuctionEdgesTest {
    private static final Checks check = new Checks();

    public static void main(String[] args) {
        newNamesAreFree();
        newResolversKeepNothing();
        daysBeginAtZero();
        fundsBeginAtZero();

        depositOwners();
        depositAmounts();
        depositReturnsFundsThen();
        depositsOfAllCalls();
        fundsOwners();
        fundsAfterPaying();

        bidOwners();
        bidNames();
        bidAmounts();
        bidWhateverTheFundsAre();
        bidReturnsTheClosingDay();
        bidWhereNeitherFreeNorInAuction();
        bidOnTheDaysOfChange();
        bidsNames();
        bidsCountsOnePerOwner();
        bidsWithoutAuction();

        firstBidBeginsAnAuctionOfFiveDays();
        laterBidLeavesTheClosingDay();
        newBidTakesTheEarlierOnesPlace();
        newBidCountsAsTheLatest();
        sameAmountEarlierFirst();
        sameAmountBehindTheWinner();
        oneUnitMoreIsAhead();
        fundsOneShortOfTheBid();
        fundsCountWhenItCloses();
        winnerPaysNextOneNotPassedOver();
        passedOverFirstBidSetsNoPrice();
        winnerPaysTenIfThereIsNoNext();
        winnerPaysAtLeastTen();
        winnerSpendsItsLastUnit();
        wonNameIsLeasedForHundredDays();
        noWinnerLeavesTheNameFree();
        fullAuction();
        check.end();
    }

    private static void newNamesAreFree() {
        check.about("1: all names are free; Terms: a name is free (0) at first");
        NameAuction x = new NameAuction();
        for (int name = 0; name < 16; name++) {
            check.is(0, x.state(name));
            check.is(-1, x.owner(name));
            check.is(-1, x.next(name));
            check.is(0, x.bids(name));
            check.isText("free", Given.text(x, name));
        }
    }

    private static void newResolversKeepNothing() {
        check.about("1: resolvers that keep nothing");
        NameAuction x = new NameAuction();
        for (int resolver = 0; resolver < 3; resolver++) {
            for (int name = 0; name < 16; name++) {
                check.is(false, x.isStale(resolver, name));
            }
            check.is(0, x.flush(resolver));
        }
    }

    private static void daysBeginAtZero() {
        check.about("Terms: today is day 0 at first");
        check.is(0, new NameAuction().today());
    }

    private static void fundsBeginAtZero() {
        check.about("Terms: an owner has funds, 0 at first");
        NameAuction x = new NameAuction();
        for (int owner = 0; owner < 6; owner++) {
            check.is(0, x.funds(owner));
        }
        check.is(0, x.takings());
    }

    private static void depositOwners() {
        check.about("2: owner 0 to 5, else IndexOutOfBoundsException");
        NameAuction x = new NameAuction();
        for (int owner = 0; owner < 6; owner++) {
            check.is(owner + 1, x.deposit(owner, owner + 1));
        }
        for (int owner : Given.NOT_OWNERS) {
            check.noSuch(() -> x.deposit(owner, 1));
        }
        for (int owner = 0; owner < 6; owner++) {
            check.is(owner + 1, x.funds(owner));
        }
    }

    private static void depositAmounts() {
        check.about("2: amount 1 to 100000, else IllegalArgumentException");
        NameAuction x = new NameAuction();
        check.is(1, x.deposit(0, 1));
        check.is(100000, x.deposit(1, 100000));
        check.is(99999, x.deposit(2, 99999));
        for (int amount : new int[] {0, -1, -100000, 100001, Integer.MAX_VALUE, Integer.MIN_VALUE}) {
            check.outOfRange(() -> x.deposit(3, amount));
        }
        check.is(0, x.funds(3));
    }

    private static void depositReturnsFundsThen() {
        check.about("2: returns the funds then");
        NameAuction x = Given.leased();
        check.is(991, x.deposit(0, 1));
        check.is(100991, x.deposit(0, 100000));
        check.is(100991, x.funds(0));
        check.is(10, x.takings());
    }

    private static void depositsOfAllCalls() {
        check.about("2: the range of amount is the only limit, in all of the 512 calls");
        NameAuction x = new NameAuction();
        for (int call = 1; call <= 511; call++) {
            check.is(100000 * call, x.deposit(0, 100000));
        }
        check.is(51100000, x.funds(0));
    }

    private static void fundsOwners() {
        check.about("3: owner 0 to 5, else IndexOutOfBoundsException");
        NameAuction x = new NameAuction();
        x.deposit(0, 7);
        x.deposit(5, 9);
        check.is(7, x.funds(0));
        check.is(0, x.funds(1));
        check.is(0, x.funds(4));
        check.is(9, x.funds(5));
        for (int owner : Given.NOT_OWNERS) {
            check.noSuch(() -> x.funds(owner));
        }
    }

    private static void fundsAfterPaying() {
        check.about("3: returns the funds, of which a bid that is not yet won takes none");
        NameAuction x = Given.inAuction();
        check.is(1000, x.funds(0));
        x.pass(4);
        check.is(1000, x.funds(0));
        x.pass(1);
        check.is(990, x.funds(0));
    }

    private static void bidOwners() {
        check.about("4: owner 0 to 5, else IndexOutOfBoundsException");
        NameAuction x = new NameAuction();
        for (int owner = 0; owner < 6; owner++) {
            check.is(5, x.bid(owner, 0, 10));
        }
        for (int owner : Given.NOT_OWNERS) {
            check.noSuch(() -> x.bid(owner, 1, 10));
            check.noSuch(() -> x.bid(owner, 0, 10));
        }
        check.is(6, x.bids(0));
        check.is(0, x.bids(1));
    }

    private static void bidNames() {
        check.about("4: name 0 to 15, else IndexOutOfBoundsException");
        NameAuction x = new NameAuction();
        for (int name : new int[] {0, 15}) {
            check.is(5, x.bid(0, name, 10));
            check.is(1, x.state(name));
        }
        for (int name : Given.NOT_NAMES) {
            check.noSuch(() -> x.bid(0, name, 10));
        }
        check.is(0, x.state(1));
        check.is(0, x.state(14));
    }

    private static void bidAmounts() {
        check.about("4: amount 10 to 100000, else IllegalArgumentException");
        NameAuction x = new NameAuction();
        check.is(5, x.bid(0, 0, 10));
        check.is(5, x.bid(0, 1, 100000));
        for (int amount : new int[] {9, 1, 0, -10, 100001, Integer.MAX_VALUE, Integer.MIN_VALUE}) {
            check.outOfRange(() -> x.bid(1, 2, amount));
            check.outOfRange(() -> x.bid(1, 0, amount));
        }
        check.is(0, x.state(2));
        check.is(1, x.bids(0));
    }

    private static void bidWhateverTheFundsAre() {
        check.about("4: whatever the funds are");
        NameAuction x = new NameAuction();
        check.is(5, x.bid(0, 0, 10));
        check.is(5, x.bid(0, 0, 100000));
        x.deposit(1, 9);
        check.is(5, x.bid(1, 0, 10));
        check.is(2, x.bids(0));
    }

    private static void bidReturnsTheClosingDay() {
        check.about("4: returns the day on which the auction closes");
        NameAuction x = new NameAuction();
        check.is(5, x.bid(0, 0, 10));
        x.pass(1);
        check.is(6, x.bid(0, 1, 10));
        check.is(5, x.bid(1, 0, 10));
        Given.passTo(x, 777);
        check.is(782, x.bid(0, 0, 10));
        check.is(782, x.next(0));
    }

    private static void bidWhereNeitherFreeNorInAuction() {
        check.about("4: IllegalStateException if the name is neither free nor in an auction");
        NameAuction[] others = {Given.leased(), Given.inGrace(), Given.inRedemption(), Given.frozenAuction(),
            Given.frozenLease(), Given.frozenGrace()};
        for (NameAuction x : others) {
            for (int owner = 0; owner < 6; owner++) {
                int bidder = owner;
                check.notNow(() -> x.bid(bidder, 0, 10));
            }
            check.notNow(() -> x.bid(0, 0, 100000));
            check.is(0, x.bids(0));
        }
    }

    private static void bidOnTheDaysOfChange() {
        check.about("4: the last and the first day on which a bid is possible");
        check.is(5, Given.inAuction().bid(1, 0, 10));
        NameAuction lastDay = Given.inAuction();
        lastDay.pass(4);
        check.is(5, lastDay.bid(1, 0, 10));
        for (int day : new int[] {5, 6, 104, 105, 114, 115, 124}) {
            NameAuction x = Given.leasedOnDay(day);
            check.notNow(() -> x.bid(1, 0, 10));
        }
        check.is(130, Given.leasedOnDay(125).bid(1, 0, 10));
        check.is(131, Given.leasedOnDay(126).bid(1, 0, 10));
    }

    private static void bidsNames() {
        check.about("5: name 0 to 15, else IndexOutOfBoundsException");
        NameAuction x = new NameAuction();
        x.bid(0, 0, 10);
        x.bid(1, 15, 10);
        x.bid(2, 15, 10);
        check.is(1, x.bids(0));
        check.is(0, x.bids(1));
        check.is(0, x.bids(14));
        check.is(2, x.bids(15));
        for (int name : Given.NOT_NAMES) {
            check.noSuch(() -> x.bids(name));
        }
    }

    private static void bidsCountsOnePerOwner() {
        check.about("Terms: an owner has at most one bid in an auction");
        NameAuction x = new NameAuction();
        for (int owner = 0; owner < 6; owner++) {
            check.is(owner, x.bids(3));
            x.bid(owner, 3, 10);
            check.is(owner + 1, x.bids(3));
            x.bid(owner, 3, 10);
            check.is(owner + 1, x.bids(3));
        }
        x.bid(0, 3, 100000);
        check.is(6, x.bids(3));
    }

    private static void bidsWithoutAuction() {
        check.about("5: 0 if there is no auction");
        NameAuction[] others = {new NameAuction(), Given.leased(), Given.inGrace(), Given.inRedemption(),
            Given.freeAgain(), Given.frozenAuction(), Given.frozenLease(), Given.frozenGrace()};
        for (NameAuction x : others) {
            check.is(0, x.bids(0));
        }
        NameAuction lastDay = Given.inAuction();
        lastDay.pass(4);
        check.is(1, lastDay.bids(0));
        lastDay.pass(1);
        check.is(0, lastDay.bids(0));
        NameAuction again = Given.freeAgain();
        again.bid(3, 0, 10);
        check.is(1, again.bids(0));
    }

    private static void firstBidBeginsAnAuctionOfFiveDays() {
        check.about("Terms: an auction closes 5 days after its first bid");
        NameAuction x = Given.rich();
        x.pass(3);
        x.bid(0, 0, 10);
        check.is(1, x.state(0));
        check.is(8, x.next(0));
        check.is(0, x.pass(4));
        check.is(1, x.state(0));
        check.is(1, x.pass(1));
        check.is(2, x.state(0));
        check.is(0, x.pass(1));
        check.is(2, x.state(0));
    }

    private static void laterBidLeavesTheClosingDay() {
        check.about("Terms: the first bid alone tells when the auction closes");
        NameAuction x = Given.inAuction();
        x.pass(4);
        check.is(5, x.bid(1, 0, 20));
        check.is(5, x.bid(0, 0, 30));
        check.is(5, x.next(0));
        check.is(1, x.pass(1));
        check.is(0, x.owner(0));
        NameAuction closed = new NameAuction();
        closed.bid(0, 0, 10);
        closed.pass(5);
        check.is(10, closed.bid(0, 0, 10));
    }

    private static void newBidTakesTheEarlierOnesPlace() {
        check.about("Terms: a new bid takes the place of the earlier one");
        NameAuction x = Given.rich();
        x.bid(0, 0, 500);
        x.bid(1, 0, 21);
        x.bid(0, 0, 20);
        x.pass(5);
        check.is(1, x.owner(0));
        check.is(980, x.funds(1));
        check.is(1000, x.funds(0));
        NameAuction y = Given.rich();
        y.bid(0, 0, 20);
        y.bid(1, 0, 21);
        y.bid(0, 0, 22);
        y.pass(5);
        check.is(0, y.owner(0));
        check.is(979, y.funds(0));
    }

    private static void newBidCountsAsTheLatest() {
        check.about("Terms: a new bid counts as the latest");
        NameAuction x = Given.rich();
        x.bid(0, 0, 50);
        x.bid(1, 0, 50);
        x.bid(0, 0, 50);
        x.pass(5);
        check.is(1, x.owner(0));
        NameAuction y = Given.rich();
        y.bid(0, 0, 50);
        y.bid(1, 0, 50);
        y.bid(0, 0, 60);
        y.bid(0, 0, 50);
        y.pass(5);
        check.is(1, y.owner(0));
        // A bid for another name leaves the turns of this one as they are.
        NameAuction z = Given.rich();
        z.bid(0, 0, 50);
        z.bid(1, 0, 50);
        z.bid(0, 1, 50);
        z.pass(5);
        check.is(0, z.owner(0));
    }

    private static void sameAmountEarlierFirst() {
        check.about("Terms: of the same amount the earlier bid first");
        NameAuction x = Given.rich();
        x.bid(5, 0, 50);
        x.bid(2, 0, 50);
        x.bid(0, 0, 50);
        x.bid(0, 1, 50);
        x.bid(2, 1, 50);
        x.bid(5, 1, 50);
        x.pass(5);
        check.is(5, x.owner(0));
        check.is(950, x.funds(5));
        check.is(0, x.owner(1));
        check.is(950, x.funds(0));
        // The days between do not count, the order alone.
        NameAuction y = Given.rich();
        y.bid(4, 0, 10);
        y.pass(1);
        y.bid(3, 0, 50);
        y.pass(3);
        y.bid(1, 0, 50);
        y.pass(1);
        check.is(3, y.owner(0));
    }

    private static void sameAmountBehindTheWinner() {
        check.about("Terms: the next one may have the same amount");
        NameAuction x = Given.rich();
        x.bid(0, 0, 40);
        x.bid(1, 0, 30);
        x.bid(2, 0, 30);
        x.pass(5);
        check.is(0, x.owner(0));
        check.is(970, x.funds(0));
    }

    private static void oneUnitMoreIsAhead() {
        check.about("Terms: the bids are looked at by falling amounts");
        NameAuction x = Given.rich();
        x.bid(0, 0, 30);
        x.bid(1, 0, 31);
        x.bid(2, 0, 29);
        x.bid(3, 1, 31);
        x.bid(4, 1, 30);
        x.pass(5);
        check.is(1, x.owner(0));
        check.is(970, x.funds(1));
        check.is(3, x.owner(1));
        check.is(970, x.funds(3));
    }

    private static void fundsOneShortOfTheBid() {
        check.about("Terms: a bid whose owner has less funds than its amount is passed over");
        int[] funds = {99, 100, 101};
        for (int have : funds) {
            NameAuction x = new NameAuction();
            x.deposit(0, have);
            x.bid(0, 0, 100);
            boolean wins = have >= 100;
            check.is(wins ? 1 : 0, x.pass(5));
            check.is(wins ? 2 : 0, x.state(0));
            check.is(wins ? have - 10 : have, x.funds(0));
        }
    }

    private static void fundsCountWhenItCloses() {
        check.about("Terms: it is the funds of the closing day that count");
        NameAuction x = new NameAuction();
        x.bid(0, 0, 100);
        x.pass(4);
        x.deposit(0, 100);
        check.is(1, x.pass(1));
        check.is(0, x.owner(0));
        NameAuction late = new NameAuction();
        late.bid(0, 0, 100);
        late.pass(5);
        late.deposit(0, 100);
        check.is(0, late.pass(1));
        check.is(0, late.state(0));
        NameAuction spent = Given.leasedWith(119);
        spent.bid(0, 1, 100);
        spent.pass(4);
        spent.renew(0, 1);
        check.is(99, spent.funds(0));
        check.is(0, spent.pass(1));
        check.is(0, spent.state(1));
        NameAuction enough = Given.leasedWith(120);
        enough.bid(0, 1, 100);
        enough.pass(4);
        enough.renew(0, 1);
        check.is(1, enough.pass(1));
        check.is(90, enough.funds(0));
    }

    private static void winnerPaysNextOneNotPassedOver() {
        check.about("Terms: the winner pays the amount of the next one that is not passed over");
        for (int rivalsFunds : new int[] {89, 90}) {
            NameAuction x = new NameAuction();
            x.deposit(0, 100);
            x.deposit(1, rivalsFunds);
            x.deposit(2, 50);
            x.bid(0, 0, 100);
            x.bid(1, 0, 90);
            x.bid(2, 0, 50);
            check.is(1, x.pass(5));
            int price = rivalsFunds < 90 ? 50 : 90;
            check.is(0, x.owner(0));
            check.is(100 - price, x.funds(0));
            check.is(rivalsFunds, x.funds(1));
            check.is(50, x.funds(2));
            check.is(price, x.takings());
        }
    }

    private static void passedOverFirstBidSetsNoPrice() {
        check.about("Terms: a bid that is passed over ahead of the winner's is no price");
        NameAuction x = new NameAuction();
        x.deposit(0, 99);
        x.deposit(1, 100);
        x.deposit(2, 100);
        x.bid(0, 0, 100);
        x.bid(1, 0, 90);
        x.bid(2, 0, 80);
        check.is(1, x.pass(5));
        check.is(1, x.owner(0));
        check.is(20, x.funds(1));
        check.is(99, x.funds(0));
    }

    private static void winnerPaysTenIfThereIsNoNext() {
        check.about("Terms: 10 if there is none");
        NameAuction alone = new NameAuction();
        alone.deposit(0, 100000);
        alone.bid(0, 0, 100000);
        alone.pass(5);
        check.is(99990, alone.funds(0));
        NameAuction others = new NameAuction();
        others.deposit(0, 100);
        others.bid(0, 0, 100);
        others.deposit(1, 98);
        others.bid(1, 0, 99);
        others.bid(2, 0, 101);
        others.pass(5);
        check.is(0, others.owner(0));
        check.is(90, others.funds(0));
        check.is(10, others.takings());
    }

    private static void winnerPaysAtLeastTen() {
        check.about("Terms: at least 10 in any case");
        for (int second : new int[] {10, 11}) {
            NameAuction x = Given.rich();
            x.bid(0, 0, 12);
            x.bid(1, 0, second);
            x.pass(5);
            check.is(0, x.owner(0));
            check.is(1000 - second, x.funds(0));
        }
    }

    private static void winnerSpendsItsLastUnit() {
        check.about("Terms: funds that just cover the price come to 0");
        NameAuction x = new NameAuction();
        x.deposit(0, 10);
        x.bid(0, 0, 10);
        check.is(1, x.pass(5));
        check.is(0, x.funds(0));
        NameAuction y = new NameAuction();
        y.deposit(0, 60);
        y.deposit(1, 60);
        y.bid(0, 0, 60);
        y.bid(1, 0, 60);
        check.is(1, y.pass(5));
        check.is(0, y.owner(0));
        check.is(0, y.funds(0));
        check.is(60, y.funds(1));
    }

    private static void wonNameIsLeasedForHundredDays() {
        check.about("Terms: the name is leased from that day for 100 days");
        NameAuction x = Given.leased();
        check.is(2, x.state(0));
        check.is(105, x.next(0));
        x.pass(99);
        check.is(2, x.state(0));
        x.pass(1);
        check.is(3, x.state(0));
        NameAuction late = Given.rich();
        late.pass(150);
        late.bid(0, 0, 10);
        late.pass(50);
        check.is(255, late.next(0));
    }

    private static void noWinnerLeavesTheNameFree() {
        check.about("Terms: if none wins, the name is free");
        NameAuction x = new NameAuction();
        x.deposit(0, 9);
        x.bid(0, 0, 10);
        x.bid(1, 0, 11);
        x.pass(4);
        check.is(1, x.state(0));
        check.is(0, x.pass(1));
        check.is(0, x.state(0));
        check.is(0, x.bids(0));
        check.is(-1, x.owner(0));
        check.is(-1, x.next(0));
        check.is(9, x.funds(0));
        check.is(0, x.takings());
        // The bids of the auction that nobody won are gone from the next one.
        x.deposit(1, 100);
        x.deposit(2, 100);
        check.is(10, x.bid(2, 0, 10));
        check.is(1, x.bids(0));
        check.is(1, x.pass(5));
        check.is(2, x.owner(0));
        check.is(90, x.funds(2));
    }

    private static void fullAuction() {
        check.about("Terms: six bids, of which the last one alone is not passed over");
        NameAuction x = new NameAuction();
        for (int owner = 0; owner < 5; owner++) {
            x.deposit(owner, 99 - owner);
            x.bid(owner, 0, 100 - owner);
        }
        x.deposit(5, 10);
        x.bid(5, 0, 10);
        check.is(6, x.bids(0));
        check.is(1, x.pass(5));
        check.is(5, x.owner(0));
        check.is(0, x.funds(5));
        check.is(10, x.takings());
    }
}
