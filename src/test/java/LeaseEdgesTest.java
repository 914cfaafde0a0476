/** The edges of promises 6 to 12 and of the leases: a test for each sentence of the document that has one. */
public final class LeaseEdgesTest {
    private static final Checks check = new Checks();

    public static void main(String[] args) {
        leaseGoesIntoGraceOnItsEnd();
        graceGoesIntoRedemptionTenDaysLater();
        redemptionIsFreeTenDaysLater();
        wholeLeaseInOnePass();

        renewNames();
        renewHundreds();
        renewCostsTwentyForEachHundred();
        renewAddsToTheEnd();
        renewOnTheDaysOfChange();
        renewInGraceIsLeasedThen();
        renewWhereNeitherLeasedNorInGrace();
        renewUpToSixHundredDaysFromToday();
        renewWithTooLittleFunds();
        renewIsPaidByTheOwner();

        redeemNames();
        redeemOnTheDaysOfChange();
        redeemWhereNotInRedemption();
        redeemCostsFifty();
        redeemIsPaidByTheLastOwner();
        redeemLeasesFromTodayForHundredDays();

        setRecordNames();
        setRecordRecords();
        setRecordLifetimes();
        setRecordReturnsTheOneBefore();
        setRecordOnTheDaysOfChange();
        setRecordWhereNotLeased();

        stateNames();
        stateOfEach();
        signNames();
        signPlaces();
        signOwners();
        ownerNames();
        ownerOfEach();
        nextNames();
        nextOfEach();
        check.end();
    }

    private static void statesOn(NameAuction x, int name, int[] days, int[] states) {
        for (int i = 0; i < days.length; i++) {
            Given.passTo(x, days[i]);
            check.is(states[i], x.state(name));
        }
    }

    private static void leaseGoesIntoGraceOnItsEnd() {
        check.about("Terms: on the day of its end the name goes into grace");
        statesOn(Given.leased(), 0, new int[] {104, 105, 106}, new int[] {2, 3, 3});
        NameAuction renewed = Given.leased();
        renewed.renew(0, 2);
        statesOn(renewed, 0, new int[] {105, 304, 305, 306}, new int[] {2, 2, 3, 3});
    }

    private static void graceGoesIntoRedemptionTenDaysLater() {
        check.about("Terms: 10 days later into redemption");
        statesOn(Given.inGrace(), 0, new int[] {113, 114, 115, 116}, new int[] {3, 3, 4, 4});
    }

    private static void redemptionIsFreeTenDaysLater() {
        check.about("Terms: 10 days after that it is free");
        NameAuction x = Given.inRedemption();
        statesOn(x, 0, new int[] {123, 124, 125, 126}, new int[] {4, 4, 0, 0});
        check.is(-1, x.owner(0));
        check.is(-1, x.next(0));
    }

    private static void wholeLeaseInOnePass() {
        check.about("Terms: each day of a pass counts by itself");
        int[] days = {4, 5, 104, 105, 114, 115, 124, 125};
        int[] states = {1, 2, 2, 3, 3, 4, 4, 0};
        for (int i = 0; i < days.length; i++) {
            NameAuction x = Given.inAuction();
            check.is(days[i] < 5 ? 0 : 1, x.pass(days[i]));
            check.is(states[i], x.state(0));
        }
    }

    private static void renewNames() {
        check.about("6: name 0 to 15, else IndexOutOfBoundsException");
        NameAuction x = Given.rich();
        x.bid(0, 0, 10);
        x.bid(0, 15, 10);
        x.pass(5);
        check.is(205, x.renew(0, 1));
        check.is(305, x.renew(15, 2));
        for (int name : Given.NOT_NAMES) {
            check.noSuch(() -> x.renew(name, 1));
        }
        check.is(920, x.funds(0));
    }

    private static void renewHundreds() {
        check.about("6: hundreds 1 to 5, else IllegalArgumentException");
        check.is(205, Given.leased().renew(0, 1));
        check.is(605, Given.leased().renew(0, 5));
        NameAuction x = Given.leased();
        for (int hundreds : new int[] {0, 6, -1, -5, 100, Integer.MAX_VALUE, Integer.MIN_VALUE}) {
            check.outOfRange(() -> x.renew(0, hundreds));
        }
        check.is(105, x.next(0));
        check.is(990, x.funds(0));
    }

    private static void renewCostsTwentyForEachHundred() {
        check.about("Terms: to renew costs 20 for each hundred");
        for (int hundreds = 1; hundreds <= 5; hundreds++) {
            NameAuction x = Given.leased();
            check.is(105 + 100 * hundreds, x.renew(0, hundreds));
            check.is(990 - 20 * hundreds, x.funds(0));
            check.is(10 + 20 * hundreds, x.takings());
        }
    }

    private static void renewAddsToTheEnd() {
        check.about("Terms: the end becomes later by the hundreds");
        NameAuction x = Given.leasedOnDay(50);
        check.is(205, x.renew(0, 1));
        check.is(205, x.next(0));
        check.is(405, x.renew(0, 2));
        statesOn(x, 0, new int[] {404, 405, 414, 415, 424, 425}, new int[] {2, 3, 3, 4, 4, 0});
    }

    private static void renewOnTheDaysOfChange() {
        check.about("6: the first and the last day on which renewing is possible");
        NameAuction before = Given.inAuction();
        before.pass(4);
        check.notNow(() -> before.renew(0, 1));
        for (int day : new int[] {5, 6, 104, 105, 106, 114}) {
            check.is(205, Given.leasedOnDay(day).renew(0, 1));
        }
        for (int day : new int[] {115, 124, 125}) {
            NameAuction x = Given.leasedOnDay(day);
            check.notNow(() -> x.renew(0, 1));
        }
    }

    private static void renewInGraceIsLeasedThen() {
        check.about("Terms: it is leased then");
        NameAuction x = Given.leasedOnDay(114);
        check.is(3, x.state(0));
        x.renew(0, 1);
        check.is(2, x.state(0));
        check.is(205, x.next(0));
        check.is(0, x.owner(0));
        statesOn(x, 0, new int[] {115, 204, 205, 215}, new int[] {2, 2, 3, 4});
    }

    private static void renewWhereNeitherLeasedNorInGrace() {
        check.about("6: IllegalStateException if it is neither leased nor in grace");
        NameAuction[] others = {Given.rich(), Given.inAuction(), Given.inRedemption(), Given.freeAgain(),
            Given.frozenAuction(), Given.frozenLease(), Given.frozenGrace()};
        for (NameAuction x : others) {
            int funds = x.funds(0);
            check.notNow(() -> x.renew(0, 1));
            check.is(funds, x.funds(0));
        }
    }

    private static void renewUpToSixHundredDaysFromToday() {
        check.about("6: IllegalStateException if the end would be later than 600 days from today");
        NameAuction x = Given.leased();
        check.is(605, x.renew(0, 5));
        check.notNow(() -> x.renew(0, 1));
        x.pass(99);
        check.notNow(() -> x.renew(0, 1));
        check.is(605, x.next(0));
        x.pass(1);
        check.notNow(() -> x.renew(0, 2));
        check.is(705, x.renew(0, 1));
        x.pass(1);
        check.notNow(() -> x.renew(0, 1));
        // Each number of hundreds up to the last day that is allowed, and the one before it refused.
        for (int hundreds = 1; hundreds <= 5; hundreds++) {
            NameAuction y = Given.leased();
            y.renew(0, 5);
            int lastEnd = 605 + 100 * hundreds;
            int count = hundreds;
            Given.passTo(y, lastEnd - 601);
            check.notNow(() -> y.renew(0, count));
            y.pass(1);
            check.is(lastEnd, y.renew(0, count));
        }
    }

    private static void renewWithTooLittleFunds() {
        check.about("6: IllegalStateException if its owner has too little funds");
        for (int hundreds = 1; hundreds <= 5; hundreds++) {
            int count = hundreds;
            NameAuction poor = Given.leasedWith(20 * hundreds - 1);
            check.notNow(() -> poor.renew(0, count));
            check.is(20 * hundreds - 1, poor.funds(0));
            check.is(105, poor.next(0));
            poor.deposit(0, 1);
            check.is(105 + 100 * hundreds, poor.renew(0, hundreds));
            check.is(0, poor.funds(0));
            NameAuction over = Given.leasedWith(20 * hundreds + 1);
            check.is(105 + 100 * hundreds, over.renew(0, hundreds));
            check.is(1, over.funds(0));
        }
        NameAuction without = Given.leasedWith(0);
        check.notNow(() -> without.renew(0, 1));
        without.pass(100);
        check.notNow(() -> without.renew(0, 1));
        check.is(3, without.state(0));
    }

    private static void renewIsPaidByTheOwner() {
        check.about("6: it is the funds of the owner that count");
        NameAuction x = Given.leasedWith(19);
        x.deposit(1, 100);
        check.notNow(() -> x.renew(0, 1));
        x.dispute(1, 0);
        x.decide(0, true);
        check.is(205, x.renew(0, 1));
        check.is(80, x.funds(1));
        check.is(19, x.funds(0));
    }

    private static void redeemNames() {
        check.about("7: name 0 to 15, else IndexOutOfBoundsException");
        NameAuction x = Given.rich();
        x.bid(0, 0, 10);
        x.bid(0, 15, 10);
        x.pass(115);
        check.is(215, x.redeem(0));
        check.is(215, x.redeem(15));
        for (int name : Given.NOT_NAMES) {
            check.noSuch(() -> x.redeem(name));
        }
    }

    private static void redeemOnTheDaysOfChange() {
        check.about("7: the first and the last day on which redeeming is possible");
        for (int day : new int[] {115, 116, 124}) {
            check.is(day + 100, Given.leasedOnDay(day).redeem(0));
        }
        for (int day : new int[] {5, 104, 105, 114, 125, 126}) {
            NameAuction x = Given.leasedOnDay(day);
            check.notNow(() -> x.redeem(0));
        }
    }

    private static void redeemWhereNotInRedemption() {
        check.about("7: IllegalStateException if it is not in redemption");
        NameAuction[] others = {Given.rich(), Given.inAuction(), Given.leased(), Given.inGrace(), Given.freeAgain(),
            Given.frozenAuction(), Given.frozenLease(), Given.frozenGrace()};
        for (NameAuction x : others) {
            int funds = x.funds(0);
            check.notNow(() -> x.redeem(0));
            check.is(funds, x.funds(0));
        }
        NameAuction redeemed = Given.inRedemption();
        redeemed.redeem(0);
        check.notNow(() -> redeemed.redeem(0));
    }

    private static void redeemCostsFifty() {
        check.about("7: IllegalStateException if its last owner has too little funds; Terms: to redeem costs 50");
        for (int funds : new int[] {0, 49}) {
            NameAuction poor = Given.leasedWith(funds);
            Given.passTo(poor, 115);
            check.notNow(() -> poor.redeem(0));
            check.is(4, poor.state(0));
            check.is(funds, poor.funds(0));
            poor.deposit(0, 50 - funds);
            check.is(215, poor.redeem(0));
            check.is(0, poor.funds(0));
        }
        NameAuction over = Given.leasedWith(51);
        Given.passTo(over, 115);
        check.is(215, over.redeem(0));
        check.is(1, over.funds(0));
        check.is(60, over.takings());
    }

    private static void redeemIsPaidByTheLastOwner() {
        check.about("7: it is the funds of the last owner that count");
        NameAuction x = Given.leasedWith(1000);
        x.dispute(1, 0);
        x.decide(0, true);
        Given.passTo(x, 115);
        check.notNow(() -> x.redeem(0));
        x.deposit(1, 50);
        check.is(215, x.redeem(0));
        check.is(0, x.funds(1));
        check.is(1000, x.funds(0));
        check.is(1, x.owner(0));
    }

    private static void redeemLeasesFromTodayForHundredDays() {
        check.about("Terms: it is leased from today for 100 days");
        NameAuction x = Given.leasedOnDay(124);
        check.is(224, x.redeem(0));
        check.is(2, x.state(0));
        check.is(224, x.next(0));
        statesOn(x, 0, new int[] {125, 223, 224, 233, 234, 243}, new int[] {2, 2, 3, 3, 4, 4});
        check.is(343, x.redeem(0));
        NameAuction y = Given.inRedemption();
        y.redeem(0);
        check.is(315, y.renew(0, 1));
    }

    private static void setRecordNames() {
        check.about("8: name 0 to 15, else IndexOutOfBoundsException");
        NameAuction x = Given.rich();
        x.bid(0, 0, 10);
        x.bid(0, 15, 10);
        x.pass(5);
        check.is(0, x.setRecord(0, 3, 3));
        check.is(0, x.setRecord(15, 4, 3));
        check.is(3, x.lookUp(0, 0));
        check.is(4, x.lookUp(0, 15));
        for (int name : Given.NOT_NAMES) {
            check.noSuch(() -> x.setRecord(name, 1, 1));
        }
    }

    private static void setRecordRecords() {
        check.about("8: record 0 to 999, else IllegalArgumentException");
        NameAuction x = Given.leased();
        check.is(0, x.setRecord(0, 999, 1));
        check.is(999, x.setRecord(0, 0, 1));
        check.is(0, x.setRecord(0, 1, 1));
        for (int record : new int[] {-1, 1000, Integer.MAX_VALUE, Integer.MIN_VALUE}) {
            check.outOfRange(() -> x.setRecord(0, record, 1));
        }
        check.is(1, x.lookUp(0, 0));
    }

    private static void setRecordLifetimes() {
        check.about("8: lifetime 1 to 50 days, else IllegalArgumentException");
        NameAuction x = Given.leased();
        check.is(0, x.setRecord(0, 5, 1));
        check.is(5, x.setRecord(0, 6, 50));
        for (int lifetime : new int[] {0, -1, 51, Integer.MAX_VALUE, Integer.MIN_VALUE}) {
            check.outOfRange(() -> x.setRecord(0, 7, lifetime));
        }
        check.is(6, x.lookUp(0, 0));
    }

    private static void setRecordReturnsTheOneBefore() {
        check.about("8: returns the record before");
        NameAuction x = Given.leased();
        check.is(0, x.setRecord(0, 17, 1));
        check.is(17, x.setRecord(0, 17, 2));
        check.is(17, x.setRecord(0, 0, 2));
        check.is(0, x.setRecord(0, 18, 2));
        Given.passTo(x, 115);
        x.redeem(0);
        check.is(0, x.setRecord(0, 19, 2));
    }

    private static void setRecordOnTheDaysOfChange() {
        check.about("8: the first and the last day on which a record can be set");
        NameAuction before = Given.inAuction();
        before.pass(4);
        check.notNow(() -> before.setRecord(0, 1, 1));
        for (int day : new int[] {5, 6, 104}) {
            check.is(0, Given.leasedOnDay(day).setRecord(0, 1, 1));
        }
        for (int day : new int[] {105, 106, 114, 115, 124, 125}) {
            NameAuction x = Given.leasedOnDay(day);
            check.notNow(() -> x.setRecord(0, 1, 1));
        }
    }

    private static void setRecordWhereNotLeased() {
        check.about("8: IllegalStateException if it is not leased");
        NameAuction[] others = {new NameAuction(), Given.inAuction(), Given.inGrace(), Given.inRedemption(),
            Given.freeAgain(), Given.frozenAuction(), Given.frozenLease(), Given.frozenGrace()};
        for (NameAuction x : others) {
            check.notNow(() -> x.setRecord(0, 0, 10));
            check.notNow(() -> x.setRecord(0, 999, 50));
        }
    }

    private static void stateNames() {
        check.about("9: name 0 to 15, else IndexOutOfBoundsException");
        NameAuction x = Given.leased();
        x.bid(0, 15, 10);
        check.is(2, x.state(0));
        check.is(0, x.state(1));
        check.is(0, x.state(14));
        check.is(1, x.state(15));
        for (int name : Given.NOT_NAMES) {
            check.noSuch(() -> x.state(name));
        }
    }

    private static void stateOfEach() {
        check.about("9: returns 0 to 5");
        check.is(0, new NameAuction().state(0));
        check.is(1, Given.inAuction().state(0));
        check.is(2, Given.leased().state(0));
        check.is(3, Given.inGrace().state(0));
        check.is(4, Given.inRedemption().state(0));
        check.is(5, Given.frozenAuction().state(0));
        check.is(5, Given.frozenLease().state(0));
        check.is(5, Given.frozenGrace().state(0));
        check.is(0, Given.freeAgain().state(0));
    }

    private static void signNames() {
        check.about("10: IndexOutOfBoundsException if there is no such name");
        NameAuction x = Given.leased();
        x.bid(0, 15, 10);
        check.is('l', x.sign(0, 0));
        check.is('f', x.sign(1, 0));
        check.is('f', x.sign(14, 0));
        check.is('a', x.sign(15, 0));
        for (int name : Given.NOT_NAMES) {
            check.noSuch(() -> x.sign(name, 0));
        }
    }

    private static void signPlaces() {
        check.about("10: IndexOutOfBoundsException if there is no such character");
        NameAuction[] each = {new NameAuction(), Given.inAuction(), Given.leased(), Given.inGrace(),
            Given.inRedemption(), Given.frozenAuction(), Given.frozenLease(), Given.frozenGrace(), Given.freeAgain()};
        String[] texts = {"free", "auction", "leased:0", "grace:0", "redemption:0", "frozen", "frozen:0", "frozen:0",
            "free"};
        for (int i = 0; i < each.length; i++) {
            NameAuction x = each[i];
            String text = texts[i];
            for (int place = 0; place < text.length(); place++) {
                check.is(text.charAt(place), x.sign(0, place));
            }
            int length = text.length();
            for (int place : new int[] {length, length + 1, length + 2, 100, -1, Integer.MAX_VALUE, Integer.MIN_VALUE}) {
                check.noSuch(() -> x.sign(0, place));
            }
        }
    }

    private static void signOwners() {
        check.about("10: for the last four a \":\" and the owner, if there is one");
        for (int owner = 0; owner < 6; owner++) {
            NameAuction x = Given.rich();
            x.bid(owner, 0, 10);
            check.isText("auction", Given.text(x, 0));
            x.pass(5);
            check.isText("leased:" + owner, Given.text(x, 0));
            x.dispute((owner + 1) % 6, 0);
            check.isText("frozen:" + owner, Given.text(x, 0));
            x.decide(0, false);
            x.pass(100);
            check.isText("grace:" + owner, Given.text(x, 0));
            x.pass(10);
            check.isText("redemption:" + owner, Given.text(x, 0));
            x.pass(10);
            check.isText("free", Given.text(x, 0));
            x.bid(owner, 0, 10);
            check.isText("auction", Given.text(x, 0));
            x.dispute(owner, 0);
            check.isText("frozen", Given.text(x, 0));
            x.decide(0, true);
            check.isText("leased:" + owner, Given.text(x, 0));
        }
    }

    private static void ownerNames() {
        check.about("11: name 0 to 15, else IndexOutOfBoundsException");
        NameAuction x = Given.rich();
        x.bid(4, 0, 10);
        x.bid(5, 15, 10);
        x.pass(5);
        check.is(4, x.owner(0));
        check.is(-1, x.owner(1));
        check.is(-1, x.owner(14));
        check.is(5, x.owner(15));
        for (int name : Given.NOT_NAMES) {
            check.noSuch(() -> x.owner(name));
        }
    }

    private static void ownerOfEach() {
        check.about("11: the owner, the last one in redemption; -1 if free, in an auction, or frozen behind an auction");
        check.is(-1, new NameAuction().owner(0));
        check.is(-1, Given.inAuction().owner(0));
        check.is(0, Given.leased().owner(0));
        check.is(0, Given.inGrace().owner(0));
        check.is(0, Given.inRedemption().owner(0));
        check.is(-1, Given.freeAgain().owner(0));
        check.is(-1, Given.frozenAuction().owner(0));
        check.is(0, Given.frozenLease().owner(0));
        check.is(0, Given.frozenGrace().owner(0));
        // The owner of an earlier lease is not that of a later auction.
        NameAuction again = Given.freeAgain();
        again.bid(2, 0, 10);
        check.is(-1, again.owner(0));
        again.dispute(3, 0);
        check.is(-1, again.owner(0));
        NameAuction transferred = Given.frozenGrace();
        transferred.decide(0, true);
        check.is(1, transferred.owner(0));
        transferred.pass(10);
        check.is(4, transferred.state(0));
        check.is(1, transferred.owner(0));
    }

    private static void nextNames() {
        check.about("12: name 0 to 15, else IndexOutOfBoundsException");
        NameAuction x = Given.leased();
        x.bid(0, 15, 10);
        check.is(105, x.next(0));
        check.is(-1, x.next(1));
        check.is(-1, x.next(14));
        check.is(10, x.next(15));
        for (int name : Given.NOT_NAMES) {
            check.noSuch(() -> x.next(name));
        }
    }

    private static void nextOfEach() {
        check.about("12: the day on which a name goes on by itself, -1 if it is free or frozen");
        check.is(-1, new NameAuction().next(0));
        check.is(5, Given.inAuction().next(0));
        check.is(105, Given.leased().next(0));
        check.is(115, Given.inGrace().next(0));
        check.is(125, Given.inRedemption().next(0));
        check.is(-1, Given.freeAgain().next(0));
        check.is(-1, Given.frozenAuction().next(0));
        check.is(-1, Given.frozenLease().next(0));
        check.is(-1, Given.frozenGrace().next(0));
        // The day told is the first one of another state.
        NameAuction x = Given.inAuction();
        while (x.next(0) >= 0) {
            int before = x.state(0);
            int next = x.next(0);
            Given.passTo(x, next - 1);
            check.is(before, x.state(0));
            check.is(next, x.next(0));
            x.pass(1);
            check.isTrue(x.state(0) != before, "another state on day " + next);
        }
        check.is(125, x.today());
    }
}
