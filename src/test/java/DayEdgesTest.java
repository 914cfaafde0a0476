/** The edges of promises 15 to 17 and of a day's passing: a test for each sentence of the document that has one. */
public final class DayEdgesTest {
    private static final Checks check = new Checks();

    public static void main(String[] args) {
        passDays();
        passReturnsAuctionsWon();
        passOfManyDaysIsManyPasses();
        passCountsNoAuctionThatNobodyWon();
        passCountsNoDisputeDecided();
        passWinsAllNamesOnOneDay();
        namesGoByRisingNumbers();
        earlierDayGoesFirst();
        todayGrowsFirst();
        todayOfAllCalls();
        leaseOnTheLastDays();
        takingsOfEach();
        takingsOfNothing();
        check.end();
    }

    private static void passDays() {
        check.about("15: days 1 to 200, else IllegalArgumentException");
        NameAuction x = Given.inAuction();
        for (int days : Given.notDays()) {
            check.outOfRange(() -> x.pass(days));
            check.is(0, x.today());
        }
        check.is(0, x.pass(1));
        check.is(1, x.today());
        check.is(1, x.pass(200));
        check.is(201, x.today());
    }

    private static void passReturnsAuctionsWon() {
        check.about("15: returns how many auctions were won in them");
        NameAuction x = Given.rich();
        x.bid(0, 0, 10);
        x.pass(1);
        x.bid(1, 1, 10);
        x.bid(2, 2, 10);
        x.pass(1);
        x.bid(3, 3, 10);
        check.is(0, x.pass(2));
        check.is(1, x.pass(1));
        check.is(2, x.pass(1));
        check.is(1, x.pass(1));
        check.is(0, x.pass(1));
        NameAuction y = Given.rich();
        y.bid(0, 0, 10);
        y.pass(1);
        y.bid(1, 1, 10);
        y.pass(1);
        y.bid(2, 2, 10);
        // Days 3 to 6: the auctions of the days 5 and 6, and not the one of day 7.
        check.is(2, y.pass(4));
        check.is(1, y.state(2));
    }

    private static void passOfManyDaysIsManyPasses() {
        check.about("15: many days at once are as many passes of one day");
        NameAuction atOnce = Given.rich();
        NameAuction byDays = Given.rich();
        for (NameAuction x : new NameAuction[] {atOnce, byDays}) {
            x.bid(0, 0, 100);
            x.bid(1, 0, 90);
            x.bid(2, 15, 10);
            x.pass(3);
            x.bid(3, 7, 50);
            x.bid(4, 8, 60);
            x.dispute(5, 8);
        }
        int won = 0;
        for (int i = 0; i < 200; i++) {
            won += byDays.pass(1);
        }
        check.is(won, atOnce.pass(200));
        check.is(3, won);
        check.is(byDays.today(), atOnce.today());
        check.is(byDays.takings(), atOnce.takings());
        for (int name : new int[] {0, 7, 8, 15}) {
            check.is(byDays.state(name), atOnce.state(name));
            check.is(byDays.next(name), atOnce.next(name));
        }
    }

    private static void passCountsNoAuctionThatNobodyWon() {
        check.about("15: an auction that nobody wins does not count");
        NameAuction x = new NameAuction();
        x.deposit(0, 10);
        x.bid(0, 0, 10);
        x.bid(1, 1, 10);
        x.bid(0, 2, 11);
        check.is(1, x.pass(5));
        check.is(2, x.state(0));
        check.is(0, x.state(1));
        check.is(0, x.state(2));
    }

    private static void passCountsNoDisputeDecided() {
        check.about("15: neither a void auction nor what comes of it counts");
        NameAuction x = Given.frozenAuction();
        check.is(0, x.pass(4));
        x.decide(0, true);
        check.is(0, x.pass(1));
        check.is(0, x.pass(200));
    }

    private static void passWinsAllNamesOnOneDay() {
        check.about("15: all 16 names may be won on one day");
        NameAuction x = Given.rich();
        for (int name = 0; name < 16; name++) {
            x.bid(name % 6, name, 10);
        }
        check.is(0, x.pass(4));
        check.is(16, x.pass(1));
        check.is(160, x.takings());
        for (int name = 0; name < 16; name++) {
            check.is(name % 6, x.owner(name));
        }
    }

    private static void namesGoByRisingNumbers() {
        check.about("Terms: the names are gone through by rising numbers");
        NameAuction x = new NameAuction();
        x.deposit(0, 159);
        for (int name = 15; name >= 0; name--) {
            x.bid(0, name, 10);
        }
        // 15 times 10 leave 9 for the last one.
        check.is(15, x.pass(5));
        for (int name = 0; name < 15; name++) {
            check.is(2, x.state(name));
        }
        check.is(0, x.state(15));
        check.is(9, x.funds(0));
        // What is paid for a name is gone when the next one is looked at, for its price too.
        NameAuction y = new NameAuction();
        y.deposit(0, 100);
        y.deposit(1, 200);
        y.bid(1, 1, 120);
        y.bid(0, 1, 91);
        y.bid(0, 0, 100);
        check.is(2, y.pass(5));
        check.is(90, y.funds(0));
        check.is(190, y.funds(1));
    }

    private static void earlierDayGoesFirst() {
        check.about("Terms: a day passes whole before the next one");
        NameAuction x = new NameAuction();
        x.deposit(0, 19);
        x.bid(0, 9, 10);
        x.pass(1);
        x.bid(0, 2, 10);
        check.is(1, x.pass(10));
        check.is(2, x.state(9));
        check.is(0, x.state(2));
    }

    private static void todayGrowsFirst() {
        check.about("Terms: today grows by 1, then what comes to its day goes on");
        NameAuction x = Given.inAuction();
        for (int day = 1; day <= 5; day++) {
            x.pass(1);
            check.is(day, x.today());
            check.is(day < 5 ? 1 : 2, x.state(0));
        }
        check.is(105, x.next(0));
    }

    private static void todayOfAllCalls() {
        check.about("16: the last day that can be reached in 512 calls");
        NameAuction x = new NameAuction();
        for (int call = 1; call <= 509; call++) {
            x.pass(200);
        }
        check.is(101805, x.bid(0, 0, 10));
        check.is(0, x.pass(200));
        check.is(102000, x.today());
    }

    private static void leaseOnTheLastDays() {
        check.about("16: on late days all goes as on the first ones");
        NameAuction x = new NameAuction();
        Given.passTo(x, 90000);
        x.deposit(3, 200);
        check.is(90005, x.bid(3, 15, 10));
        check.is(1, x.pass(5));
        check.is(90205, x.renew(15, 1));
        x.dispute(4, 15);
        x.pass(200);
        check.is(2, x.decide(15, false));
        check.is(90405, x.next(15));
        Given.passTo(x, 90424);
        check.is(4, x.state(15));
        check.is(90524, x.redeem(15));
        x.lookUp(0, 15);
        x.setRecord(15, 1, 1);
        x.pass(9);
        check.is(true, x.isStale(0, 15));
        x.pass(1);
        check.is(1, x.lookUp(0, 15));
        check.is(120, x.funds(3));
        check.is(80, x.takings());
    }

    private static void takingsOfEach() {
        check.about("17: all that was paid to the registry");
        NameAuction x = Given.rich();
        check.is(0, x.takings());
        x.bid(0, 0, 30);
        x.bid(1, 0, 20);
        x.bid(2, 1, 10);
        x.pass(4);
        check.is(0, x.takings());
        x.pass(1);
        check.is(30, x.takings());
        x.renew(0, 1);
        check.is(50, x.takings());
        Given.passTo(x, 115);
        x.redeem(1);
        check.is(100, x.takings());
        int funds = 0;
        for (int owner = 0; owner < 6; owner++) {
            funds += x.funds(owner);
        }
        check.is(6000 - 100, funds);
    }

    private static void takingsOfNothing() {
        check.about("17: what costs nothing, and what is refused, pays nothing");
        NameAuction x = Given.leasedWith(0);
        check.notNow(() -> x.renew(0, 1));
        x.deposit(1, 100000);
        x.setRecord(0, 1, 1);
        x.dispute(1, 0);
        x.decide(0, false);
        check.is(10, x.takings());
        Given.passTo(x, 115);
        check.notNow(() -> x.redeem(0));
        x.pass(10);
        check.is(10, x.takings());
        x.bid(2, 0, 100000);
        x.pass(5);
        check.is(10, x.takings());
    }
}
