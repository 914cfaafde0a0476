/** One part for each promise of the document, and for the terms that several promises share. */
public final class PromisesTest {
    private static final Checks check = new Checks();

    public static void main(String[] args) {
        promise1NewObject();
        promise2Deposit();
        promise3Funds();
        promise4Bid();
        promise5Bids();
        promise6Renew();
        promise6RenewTooFar();
        promise7Redeem();
        promise8SetRecord();
        promise9State();
        promise10Sign();
        promise11Owner();
        promise12Next();
        promise13Dispute();
        promise14DecideAfterAuction();
        promise14DecideAfterLease();
        promise14DecideAfterGrace();
        promise15Pass();
        promise15AuctionsOfOneDay();
        promise15PricesAndTies();
        promise16Today();
        promise17Takings();
        promise18LookUp();
        promise18RecordsOfStates();
        promise18Lifetimes();
        promise19IsStale();
        promise20Flush();
        exceptionsInTheirOrder();
        throwingChangesNothing();
        objectsStandApart();
        check.end();
    }

    private static void promise1NewObject() {
        check.about("promise 1");
        NameAuction x = new NameAuction();
        for (int name = 0; name < 16; name++) {
            check.is(Given.FREE, x.state(name));
            check.is(0, x.bids(name));
            check.is(-1, x.owner(name));
            check.is(-1, x.next(name));
        }
        for (int owner = 0; owner < 6; owner++) {
            check.is(0, x.funds(owner));
        }
        for (int resolver = 0; resolver < 3; resolver++) {
            check.is(false, x.isStale(resolver, 0));
            check.is(0, x.flush(resolver));
        }
        check.is(0, x.today());
        check.is(0, x.takings());
    }

    private static void promise2Deposit() {
        check.about("promise 2");
        NameAuction x = new NameAuction();
        check.is(1, x.deposit(0, 1));
        check.is(100001, x.deposit(0, 100000));
        check.is(7, x.deposit(5, 7));
        check.is(100008, x.deposit(0, 7));
        for (int owner : Given.NOT_OWNERS) {
            check.noSuch(() -> x.deposit(owner, 5));
            check.noSuch(() -> x.deposit(owner, 0));
        }
        for (int amount : new int[] {0, -1, 100001, Integer.MAX_VALUE, Integer.MIN_VALUE}) {
            check.outOfRange(() -> x.deposit(0, amount));
        }
        check.is(100008, x.funds(0));
        check.is(0, x.takings());
    }

    private static void promise3Funds() {
        check.about("promise 3");
        NameAuction x = new NameAuction();
        x.deposit(0, 11);
        x.deposit(5, 22);
        check.is(11, x.funds(0));
        check.is(0, x.funds(1));
        check.is(22, x.funds(5));
        for (int owner : Given.NOT_OWNERS) {
            check.noSuch(() -> x.funds(owner));
        }
    }

    private static void promise4Bid() {
        check.about("promise 4");
        NameAuction x = new NameAuction();
        check.is(5, x.bid(0, 0, 10));
        check.is(5, x.bid(5, 15, 100000));
        x.pass(3);
        check.is(5, x.bid(1, 0, 20));
        check.is(8, x.bid(1, 1, 20));
        for (int owner : Given.NOT_OWNERS) {
            check.noSuch(() -> x.bid(owner, 0, 10));
        }
        for (int name : Given.NOT_NAMES) {
            check.noSuch(() -> x.bid(0, name, 10));
        }
        for (int amount : new int[] {9, 0, -10, 100001, Integer.MAX_VALUE, Integer.MIN_VALUE}) {
            check.outOfRange(() -> x.bid(0, 2, amount));
            check.is(Given.FREE, x.state(2));
        }
        for (NameAuction taken : new NameAuction[] {Given.inGrace(), Given.inRedemption(), Given.leased(), Given.frozenLease(), Given.frozenAuction()}) {
            check.notNow(() -> taken.bid(3, 0, 10));
            check.is(0, taken.bids(0));
        }
    }

    private static void promise5Bids() {
        check.about("promise 5");
        NameAuction x = Given.rich();
        for (int owner = 0; owner < 6; owner++) {
            check.is(owner, x.bids(15));
            x.bid(owner, 15, 10 + owner);
        }
        x.bid(2, 15, 500);
        check.is(6, x.bids(15));
        check.is(0, x.bids(14));
        x.pass(4);
        check.is(6, x.bids(15));
        x.pass(1);
        check.is(0, x.bids(15));
        NameAuction disputed = Given.frozenAuction();
        check.is(0, disputed.bids(0));
        disputed.decide(0, false);
        check.is(0, disputed.bids(0));
        disputed.bid(4, 0, 10);
        check.is(1, disputed.bids(0));
        NameAuction poor = new NameAuction();
        poor.bid(0, 0, 10);
        poor.pass(5);
        check.is(0, poor.bids(0));
        poor.bid(1, 0, 10);
        check.is(1, poor.bids(0));
        for (int name : Given.NOT_NAMES) {
            check.noSuch(() -> x.bids(name));
        }
    }

    private static void promise6Renew() {
        check.about("promise 6");
        NameAuction x = Given.leased();
        check.is(205, x.renew(0, 1));
        check.is(970, x.funds(0));
        check.is(505, x.renew(0, 3));
        check.is(910, x.funds(0));
        check.is(90, x.takings());
        check.is(505, x.next(0));
        for (int name : Given.NOT_NAMES) {
            check.noSuch(() -> x.renew(name, 1));
        }
        for (int hundreds : new int[] {0, 6, -1, Integer.MAX_VALUE, Integer.MIN_VALUE}) {
            check.outOfRange(() -> x.renew(0, hundreds));
        }
        Given.passTo(x, 514);
        check.is(Given.GRACE, x.state(0));
        check.is(605, x.renew(0, 1));
        check.is(Given.LEASED, x.state(0));
        check.is(0, x.owner(0));
        Given.passTo(x, 615);
        check.notNow(() -> x.renew(0, 1));
        for (NameAuction other : new NameAuction[] {new NameAuction(), Given.frozenLease(), Given.frozenAuction(), Given.inRedemption()}) {
            check.notNow(() -> other.renew(0, 1));
        }
        NameAuction bidFor = Given.rich();
        bidFor.bid(0, 0, 10);
        check.notNow(() -> bidFor.renew(0, 1));
    }

    private static void promise6RenewTooFar() {
        check.about("promise 6");
        NameAuction x = Given.leased();
        check.is(605, x.renew(0, 5));
        check.notNow(() -> x.renew(0, 1));
        x.pass(99);
        check.notNow(() -> x.renew(0, 1));
        x.pass(1);
        check.notNow(() -> x.renew(0, 2));
        check.is(705, x.renew(0, 1));
        check.is(870, x.funds(0));
        NameAuction poor = new NameAuction();
        poor.deposit(0, 49);
        poor.bid(0, 0, 10);
        poor.pass(5);
        check.notNow(() -> poor.renew(0, 2));
        check.is(205, poor.renew(0, 1));
        check.is(19, poor.funds(0));
        check.notNow(() -> poor.renew(0, 1));
        check.is(20, poor.deposit(0, 1));
        check.is(305, poor.renew(0, 1));
        check.is(0, poor.funds(0));
    }

    private static void promise7Redeem() {
        check.about("promise 7");
        NameAuction x = Given.leased();
        x.setRecord(0, 500, 40);
        check.notNow(() -> x.redeem(0));
        Given.passTo(x, 114);
        check.notNow(() -> x.redeem(0));
        Given.passTo(x, 124);
        check.is(224, x.redeem(0));
        check.is(Given.LEASED, x.state(0));
        check.is(0, x.owner(0));
        check.is(940, x.funds(0));
        check.is(60, x.takings());
        check.is(0, x.lookUp(0, 0));
        Given.passTo(x, 243);
        check.is(343, x.redeem(0));
        Given.passTo(x, 363);
        check.is(Given.FREE, x.state(0));
        check.notNow(() -> x.redeem(0));
        NameAuction poor = new NameAuction();
        poor.deposit(0, 59);
        poor.bid(0, 0, 10);
        Given.passTo(poor, 115);
        check.notNow(() -> poor.redeem(0));
        poor.deposit(0, 1);
        check.is(215, poor.redeem(0));
        check.is(0, poor.funds(0));
        for (NameAuction other : new NameAuction[] {new NameAuction(), Given.frozenLease(), Given.frozenAuction()}) {
            check.notNow(() -> other.redeem(0));
        }
        for (int name : Given.NOT_NAMES) {
            check.noSuch(() -> x.redeem(name));
        }
    }

    private static void promise8SetRecord() {
        check.about("promise 8");
        NameAuction x = Given.leased();
        check.is(0, x.setRecord(0, 999, 50));
        check.is(999, x.setRecord(0, 0, 1));
        check.is(0, x.setRecord(0, 7, 3));
        for (int name : Given.NOT_NAMES) {
            check.noSuch(() -> x.setRecord(name, 1, 1));
        }
        for (int record : new int[] {-1, 1000, Integer.MAX_VALUE, Integer.MIN_VALUE}) {
            check.outOfRange(() -> x.setRecord(0, record, 1));
        }
        for (int lifetime : new int[] {0, 51, -1, Integer.MAX_VALUE, Integer.MIN_VALUE}) {
            check.outOfRange(() -> x.setRecord(0, 1, lifetime));
        }
        check.is(7, x.setRecord(0, 7, 3));
        x.renew(0, 1);
        check.is(7, x.setRecord(0, 8, 3));
        x.dispute(1, 0);
        check.notNow(() -> x.setRecord(0, 1, 1));
        x.decide(0, true);
        check.is(8, x.setRecord(0, 9, 3));
        NameAuction bidFor = Given.rich();
        bidFor.bid(0, 0, 10);
        for (NameAuction other : new NameAuction[] {bidFor, new NameAuction(), Given.frozenAuction(), Given.inGrace(), Given.inRedemption()}) {
            check.notNow(() -> other.setRecord(0, 1, 1));
        }
    }

    private static void promise9State() {
        check.about("promise 9");
        NameAuction x = Given.rich();
        x.bid(0, 0, 10);
        check.is(Given.AUCTION, x.state(0));
        check.is(Given.FREE, x.state(1));
        Given.passTo(x, 4);
        check.is(Given.AUCTION, x.state(0));
        Given.passTo(x, 5);
        check.is(Given.LEASED, x.state(0));
        Given.passTo(x, 104);
        check.is(Given.LEASED, x.state(0));
        Given.passTo(x, 105);
        check.is(Given.GRACE, x.state(0));
        Given.passTo(x, 114);
        check.is(Given.GRACE, x.state(0));
        Given.passTo(x, 115);
        check.is(Given.REDEMPTION, x.state(0));
        Given.passTo(x, 124);
        check.is(Given.REDEMPTION, x.state(0));
        Given.passTo(x, 125);
        check.is(Given.FREE, x.state(0));
        check.is(Given.FROZEN, Given.frozenLease().state(0));
        check.is(Given.FROZEN, Given.frozenAuction().state(0));
        for (int name : Given.NOT_NAMES) {
            check.noSuch(() -> x.state(name));
        }
    }

    private static void promise10Sign() {
        check.about("promise 10");
        NameAuction x = new NameAuction();
        check.isText("free", Given.text(x, 0));
        x.deposit(4, 100);
        x.bid(4, 0, 10);
        check.isText("auction", Given.text(x, 0));
        check.noSuch(() -> x.sign(0, 7));
        x.pass(5);
        check.isText("leased:4", Given.text(x, 0));
        check.noSuch(() -> x.sign(0, 8));
        check.noSuch(() -> x.sign(0, 9));
        x.pass(100);
        check.isText("grace:4", Given.text(x, 0));
        x.dispute(5, 0);
        check.isText("frozen:4", Given.text(x, 0));
        x.decide(0, true);
        check.isText("grace:5", Given.text(x, 0));
        x.pass(10);
        check.isText("redemption:5", Given.text(x, 0));
        x.pass(10);
        check.isText("free", Given.text(x, 0));
        check.isText("frozen", Given.text(Given.frozenAuction(), 0));
        check.isText("frozen:0", Given.text(Given.frozenLease(), 0));
        check.is('f', x.sign(15, 0));
        for (int place : new int[] {-1, 4, 5, Integer.MAX_VALUE, Integer.MIN_VALUE}) {
            check.noSuch(() -> x.sign(0, place));
        }
        for (int name : Given.NOT_NAMES) {
            check.noSuch(() -> x.sign(name, 0));
        }
    }

    private static void promise11Owner() {
        check.about("promise 11");
        NameAuction x = Given.rich();
        check.is(-1, x.owner(7));
        x.bid(3, 7, 10);
        check.is(-1, x.owner(7));
        x.pass(5);
        check.is(3, x.owner(7));
        x.dispute(2, 7);
        check.is(3, x.owner(7));
        x.decide(7, true);
        check.is(2, x.owner(7));
        x.pass(100);
        check.is(2, x.owner(7));
        x.pass(10);
        check.is(2, x.owner(7));
        x.pass(10);
        check.is(-1, x.owner(7));
        x.bid(3, 7, 10);
        check.is(-1, x.owner(7));
        x.dispute(1, 7);
        check.is(-1, x.owner(7));
        for (int name : Given.NOT_NAMES) {
            check.noSuch(() -> x.owner(name));
        }
    }

    private static void promise12Next() {
        check.about("promise 12");
        NameAuction x = Given.rich();
        x.pass(2);
        check.is(-1, x.next(0));
        x.bid(0, 0, 10);
        check.is(7, x.next(0));
        x.pass(5);
        check.is(107, x.next(0));
        x.pass(100);
        check.is(117, x.next(0));
        x.pass(10);
        check.is(127, x.next(0));
        x.pass(10);
        check.is(-1, x.next(0));
        check.is(-1, Given.frozenLease().next(0));
        check.is(-1, Given.frozenAuction().next(0));
        for (int name : Given.NOT_NAMES) {
            check.noSuch(() -> x.next(name));
        }
    }

    private static void promise13Dispute() {
        check.about("promise 13");
        NameAuction x = Given.rich();
        check.notNow(() -> x.dispute(0, 0));
        x.bid(0, 0, 10);
        x.bid(1, 1, 10);
        check.is(Given.AUCTION, x.dispute(0, 0));
        check.is(Given.FROZEN, x.state(0));
        check.is(0, x.bids(0));
        check.notNow(() -> x.dispute(1, 0));
        check.is(1, x.pass(5));
        check.is(Given.FROZEN, x.state(0));
        check.notNow(() -> x.dispute(1, 1));
        check.is(Given.LEASED, x.dispute(5, 1));
        check.notNow(() -> x.dispute(4, 1));
        NameAuction late = Given.inGrace();
        check.notNow(() -> late.dispute(0, 0));
        check.is(Given.GRACE, late.dispute(1, 0));
        NameAuction tooLate = Given.inRedemption();
        check.notNow(() -> tooLate.dispute(1, 0));
        tooLate.pass(10);
        check.notNow(() -> tooLate.dispute(1, 0));
        tooLate.bid(1, 0, 10);
        check.is(Given.AUCTION, tooLate.dispute(0, 0));
        for (int owner : Given.NOT_OWNERS) {
            check.noSuch(() -> x.dispute(owner, 1));
        }
        for (int name : Given.NOT_NAMES) {
            check.noSuch(() -> x.dispute(0, name));
        }
    }

    private static void promise14DecideAfterAuction() {
        check.about("promise 14");
        NameAuction x = Given.frozenAuction();
        x.pass(3);
        check.is(Given.LEASED, x.decide(0, true));
        check.is(1, x.owner(0));
        check.is(103, x.next(0));
        check.is(1000, x.funds(1));
        check.is(0, x.takings());
        check.is(0, x.lookUp(0, 0));
        check.is(0, x.pass(5));
        check.is(Given.LEASED, x.state(0));
        NameAuction y = Given.frozenAuction();
        y.pass(3);
        check.is(Given.FREE, y.decide(0, false));
        check.is(-1, y.owner(0));
        check.is(-1, y.next(0));
        check.is(0, y.pass(5));
        check.is(Given.FREE, y.state(0));
        check.is(1000, y.funds(0));
        check.notNow(() -> y.decide(0, true));
        y.bid(0, 0, 10);
        check.notNow(() -> y.decide(0, true));
        y.pass(5);
        check.notNow(() -> y.decide(0, false));
        for (NameAuction other : new NameAuction[] {Given.inGrace(), Given.inRedemption()}) {
            check.notNow(() -> other.decide(0, true));
        }
        for (int name : Given.NOT_NAMES) {
            check.noSuch(() -> x.decide(name, true));
        }
    }

    private static void promise14DecideAfterLease() {
        check.about("promise 14");
        NameAuction x = Given.leased();
        x.setRecord(0, 321, 4);
        x.pass(10);
        x.dispute(1, 0);
        x.pass(150);
        check.is(Given.FROZEN, x.state(0));
        check.is(Given.LEASED, x.decide(0, true));
        check.is(1, x.owner(0));
        check.is(255, x.next(0));
        check.is(321, x.lookUp(0, 0));
        check.is(1000, x.funds(1));
        x.dispute(0, 0);
        check.is(Given.LEASED, x.decide(0, false));
        check.is(1, x.owner(0));
        check.is(255, x.next(0));
        x.dispute(3, 0);
        x.pass(1);
        check.is(Given.LEASED, x.decide(0, false));
        check.is(256, x.next(0));
        check.is(10, x.takings());
        check.is(321, x.setRecord(0, 1, 1));
    }

    private static void promise14DecideAfterGrace() {
        check.about("promise 14");
        NameAuction x = Given.inGrace();
        x.pass(9);
        x.dispute(1, 0);
        x.pass(200);
        check.is(Given.FROZEN, x.state(0));
        check.is(Given.GRACE, x.decide(0, false));
        check.is(0, x.owner(0));
        check.is(315, x.next(0));
        check.is(405, x.renew(0, 1));
        NameAuction y = Given.inGrace();
        y.dispute(1, 0);
        check.is(Given.GRACE, y.decide(0, true));
        check.is(1, y.owner(0));
        check.is(115, y.next(0));
        check.is(205, y.renew(0, 1));
        check.is(980, y.funds(1));
        check.is(990, y.funds(0));
    }

    private static void promise15Pass() {
        check.about("promise 15");
        NameAuction x = Given.rich();
        for (int days : Given.notDays()) {
            check.outOfRange(() -> x.pass(days));
        }
        check.is(0, x.pass(1));
        check.is(0, x.pass(200));
        check.is(201, x.today());
        x.bid(0, 0, 10);
        x.bid(0, 1, 10);
        x.pass(1);
        x.bid(1, 2, 10);
        check.is(2, x.pass(4));
        check.is(1, x.pass(1));
        x.bid(5, 15, 100000);
        x.bid(0, 14, 10);
        check.is(1, x.pass(200));
        check.is(Given.FREE, x.state(15));
        check.is(Given.FREE, x.state(14));
        NameAuction renewed = Given.leased();
        renewed.renew(0, 2);
        renewed.pass(200);
        check.is(0, renewed.pass(99));
        check.is(Given.LEASED, renewed.state(0));
        renewed.pass(1);
        check.is(Given.GRACE, renewed.state(0));
    }

    private static void promise15AuctionsOfOneDay() {
        check.about("promise 15");
        NameAuction x = new NameAuction();
        x.deposit(0, 100);
        x.deposit(1, 60);
        x.bid(1, 9, 55);
        x.bid(0, 9, 90);
        x.bid(0, 2, 80);
        x.bid(1, 2, 60);
        // Name 2 comes first and takes 60, so that owner 0 cannot stand by its 90 for name 9.
        check.is(2, x.pass(5));
        check.is(0, x.owner(2));
        check.is(1, x.owner(9));
        check.is(40, x.funds(0));
        check.is(50, x.funds(1));
        check.is(70, x.takings());
    }

    private static void promise15PricesAndTies() {
        check.about("promise 15");
        NameAuction x = new NameAuction();
        for (int owner = 0; owner < 6; owner++) {
            x.deposit(owner, 100);
        }
        x.bid(0, 0, 50);
        x.bid(1, 0, 50);
        x.bid(0, 0, 50);
        x.bid(2, 1, 101);
        x.bid(3, 1, 70);
        x.bid(4, 1, 102);
        x.bid(5, 1, 60);
        x.bid(2, 2, 100000);
        x.bid(5, 3, 30);
        x.bid(4, 3, 100);
        x.bid(5, 3, 20);
        check.is(3, x.pass(5));
        check.is(1, x.owner(0));
        check.is(50, x.funds(1));
        check.is(100, x.funds(0));
        check.is(3, x.owner(1));
        check.is(40, x.funds(3));
        check.is(Given.FREE, x.state(2));
        check.is(4, x.owner(3));
        check.is(80, x.funds(4));
        check.is(130, x.takings());
        // The bidder with the lower number, but the later bid, does not win a tie.
        x.bid(5, 4, 40);
        x.bid(2, 4, 40);
        x.bid(0, 4, 40);
        x.pass(5);
        check.is(5, x.owner(4));
        check.is(60, x.funds(5));
        // Funds exactly equal to the amount are enough.
        x.bid(5, 5, 60);
        x.bid(1, 5, 51);
        x.pass(5);
        check.is(5, x.owner(5));
        check.is(50, x.funds(5));
    }

    private static void promise16Today() {
        check.about("promise 16");
        NameAuction x = new NameAuction();
        check.is(0, x.today());
        x.pass(1);
        check.is(1, x.today());
        x.pass(200);
        check.is(201, x.today());
        check.outOfRange(() -> x.pass(201));
        check.is(201, x.today());
    }

    private static void promise17Takings() {
        check.about("promise 17");
        NameAuction x = Given.rich();
        check.is(0, x.takings());
        x.bid(0, 0, 500);
        x.bid(1, 0, 300);
        check.is(0, x.takings());
        x.pass(5);
        check.is(300, x.takings());
        x.renew(0, 5);
        check.is(400, x.takings());
        Given.passTo(x, 615);
        x.redeem(0);
        check.is(450, x.takings());
        check.is(550, x.funds(0));
        x.dispute(1, 0);
        x.decide(0, true);
        check.is(450, x.takings());
    }

    private static void promise18LookUp() {
        check.about("promise 18");
        NameAuction x = Given.leased();
        x.setRecord(0, 42, 2);
        check.is(42, x.lookUp(0, 0));
        check.is(-1, x.lookUp(0, 1));
        x.setRecord(0, 43, 2);
        check.is(42, x.lookUp(0, 0));
        check.is(43, x.lookUp(2, 0));
        x.pass(1);
        check.is(42, x.lookUp(0, 0));
        x.setRecord(0, 44, 50);
        x.pass(1);
        check.is(44, x.lookUp(0, 0));
        for (int resolver : Given.NOT_RESOLVERS) {
            check.noSuch(() -> x.lookUp(resolver, 0));
        }
        for (int name : Given.NOT_NAMES) {
            check.noSuch(() -> x.lookUp(0, name));
        }
    }

    private static void promise18RecordsOfStates() {
        check.about("promise 18");
        NameAuction x = Given.leased();
        x.setRecord(0, 42, 1);
        x.pass(100);
        check.is(42, x.lookUp(0, 0));
        x.dispute(1, 0);
        x.pass(5);
        check.is(42, x.lookUp(0, 0));
        x.decide(0, true);
        x.pass(5);
        check.is(Given.GRACE, x.state(0));
        check.is(42, x.lookUp(0, 0));
        x.pass(5);
        check.is(Given.REDEMPTION, x.state(0));
        check.is(-1, x.lookUp(0, 0));
        x.pass(10);
        check.is(Given.FREE, x.state(0));
        check.is(-1, x.lookUp(0, 0));
        x.bid(0, 0, 10);
        check.is(-1, x.lookUp(1, 0));
        x.pass(5);
        check.is(0, x.lookUp(1, 0));
        x.setRecord(0, 42, 1);
        x.renew(0, 1);
        check.is(42, x.lookUp(2, 0));
        check.is(-1, Given.frozenAuction().lookUp(0, 0));
        // A dispute about a later auction must not tell the record of an earlier lease.
        NameAuction y = Given.leased();
        y.setRecord(0, 9, 9);
        Given.passTo(y, 125);
        y.bid(2, 0, 10);
        y.dispute(3, 0);
        check.is(-1, y.lookUp(0, 0));
        y.decide(0, true);
        check.is(0, y.lookUp(1, 0));
    }

    private static void promise18Lifetimes() {
        check.about("promise 18");
        NameAuction x = new NameAuction();
        x.deposit(0, 100);
        // Taken on day 1, nothing is told until day 5, with the auction won on the same day.
        x.bid(0, 0, 10);
        x.pass(1);
        check.is(-1, x.lookUp(0, 0));
        x.pass(4);
        check.is(Given.LEASED, x.state(0));
        check.is(-1, x.lookUp(0, 0));
        x.pass(1);
        check.is(0, x.lookUp(0, 0));
        // A lease's first lifetime is 10, and a later one counts for later answers alone.
        x.setRecord(0, 5, 50);
        x.pass(9);
        check.is(0, x.lookUp(0, 0));
        x.pass(1);
        check.is(5, x.lookUp(0, 0));
        x.setRecord(0, 6, 1);
        x.pass(49);
        check.is(5, x.lookUp(0, 0));
        x.pass(1);
        check.is(6, x.lookUp(0, 0));
        x.setRecord(0, 7, 1);
        check.is(6, x.lookUp(0, 0));
        x.pass(1);
        check.is(7, x.lookUp(0, 0));
        NameAuction redeemed = Given.leased();
        redeemed.setRecord(0, 8, 50);
        Given.passTo(redeemed, 115);
        check.is(-1, redeemed.lookUp(0, 0));
        redeemed.redeem(0);
        check.is(-1, redeemed.lookUp(0, 0));
        check.is(0, redeemed.lookUp(1, 0));
        redeemed.setRecord(0, 9, 1);
        Given.passTo(redeemed, 120);
        check.is(9, redeemed.lookUp(0, 0));
        Given.passTo(redeemed, 124);
        check.is(0, redeemed.lookUp(1, 0));
        Given.passTo(redeemed, 125);
        check.is(9, redeemed.lookUp(1, 0));
        NameAuction disputed = Given.frozenAuction();
        disputed.decide(0, true);
        check.is(0, disputed.lookUp(0, 0));
        disputed.setRecord(0, 3, 3);
        disputed.pass(9);
        check.is(0, disputed.lookUp(0, 0));
        disputed.pass(1);
        check.is(3, disputed.lookUp(0, 0));
        disputed.dispute(5, 0);
        disputed.pass(3);
        check.is(3, disputed.lookUp(0, 0));
        check.is(false, disputed.isStale(0, 0));
    }

    private static void promise19IsStale() {
        check.about("promise 19");
        NameAuction x = Given.leased();
        check.is(false, x.isStale(0, 0));
        x.setRecord(0, 1, 3);
        check.is(false, x.isStale(0, 0));
        x.lookUp(0, 0);
        check.is(false, x.isStale(0, 0));
        x.setRecord(0, 2, 3);
        check.is(true, x.isStale(0, 0));
        check.is(false, x.isStale(1, 0));
        check.is(false, x.isStale(0, 1));
        x.setRecord(0, 1, 50);
        check.is(false, x.isStale(0, 0));
        x.setRecord(0, 2, 50);
        x.pass(2);
        check.is(true, x.isStale(0, 0));
        x.pass(1);
        check.is(false, x.isStale(0, 0));
        // Asking whether an answer is stale takes none.
        check.is(2, x.lookUp(0, 0));
        check.is(-1, x.lookUp(1, 3));
        check.is(false, x.isStale(1, 3));
        x.dispute(4, 0);
        check.is(false, x.isStale(0, 0));
        NameAuction y = Given.frozenAuction();
        check.is(-1, y.lookUp(2, 0));
        y.decide(0, true);
        check.is(true, y.isStale(2, 0));
        y.flush(2);
        check.is(false, y.isStale(2, 0));
        NameAuction z = Given.inGrace();
        z.pass(9);
        z.lookUp(0, 0);
        check.is(false, z.isStale(0, 0));
        z.pass(1);
        check.is(true, z.isStale(0, 0));
        for (int resolver : Given.NOT_RESOLVERS) {
            check.noSuch(() -> x.isStale(resolver, 0) ? 1 : 0);
        }
        for (int name : Given.NOT_NAMES) {
            check.noSuch(() -> x.isStale(0, name) ? 1 : 0);
        }
    }

    private static void promise20Flush() {
        check.about("promise 20");
        NameAuction x = Given.leased();
        check.is(0, x.flush(2));
        x.lookUp(2, 0);
        x.lookUp(2, 0);
        x.lookUp(2, 15);
        x.lookUp(1, 3);
        x.isStale(2, 4);
        check.is(2, x.flush(2));
        check.is(0, x.flush(2));
        check.is(1, x.flush(1));
        x.lookUp(0, 0);
        x.lookUp(0, 1);
        x.pass(60);
        check.is(2, x.flush(0));
        x.lookUp(0, 0);
        x.setRecord(0, 12, 12);
        x.flush(0);
        check.is(12, x.lookUp(0, 0));
        for (int name = 0; name < 16; name++) {
            x.lookUp(0, name);
        }
        check.is(16, x.flush(0));
        for (int resolver : Given.NOT_RESOLVERS) {
            check.noSuch(() -> x.flush(resolver));
        }
    }

    private static void exceptionsInTheirOrder() {
        check.about("terms: which exception goes first");
        NameAuction x = Given.leased();
        check.noSuch(() -> x.bid(6, 0, 9));
        check.noSuch(() -> x.bid(0, 16, 9));
        check.outOfRange(() -> x.bid(0, 0, 9));
        check.notNow(() -> x.bid(0, 0, 10));
        check.noSuch(() -> x.renew(16, 0));
        check.outOfRange(() -> x.renew(1, 0));
        check.notNow(() -> x.renew(1, 1));
        check.noSuch(() -> x.setRecord(-1, -1, 0));
        check.outOfRange(() -> x.setRecord(1, -1, 1));
        check.outOfRange(() -> x.setRecord(1, 1, 0));
        check.notNow(() -> x.setRecord(1, 1, 1));
        check.noSuch(() -> x.dispute(6, 1));
        check.noSuch(() -> x.dispute(0, -1));
        check.notNow(() -> x.dispute(0, 1));
    }

    private static void throwingChangesNothing() {
        check.about("terms: a call that throws changes nothing");
        NameAuction x = Given.leased();
        x.setRecord(0, 5, 6);
        check.notNow(() -> x.bid(1, 0, 10));
        check.outOfRange(() -> x.bid(1, 1, 9));
        check.notNow(() -> x.dispute(0, 0));
        check.notNow(() -> x.decide(0, true));
        check.notNow(() -> x.redeem(0));
        check.outOfRange(() -> x.setRecord(0, 7, 51));
        check.outOfRange(() -> x.setRecord(0, 1000, 7));
        x.renew(0, 5);
        check.notNow(() -> x.renew(0, 1));
        check.outOfRange(() -> x.pass(0));
        check.is(5, x.today());
        check.is(890, x.funds(0));
        check.is(1000, x.funds(1));
        check.is(110, x.takings());
        check.is(605, x.next(0));
        check.isText("leased:0", Given.text(x, 0));
        check.is(0, x.bids(0));
        check.is(Given.FREE, x.state(1));
        check.is(5, x.lookUp(0, 0));
        x.setRecord(0, 8, 1);
        x.pass(5);
        check.is(5, x.lookUp(0, 0));
        x.pass(1);
        check.is(8, x.lookUp(0, 0));
        NameAuction poor = new NameAuction();
        poor.deposit(0, 20);
        poor.bid(0, 0, 10);
        Given.passTo(poor, 110);
        check.notNow(() -> poor.renew(0, 1));
        check.isText("grace:0", Given.text(poor, 0));
        check.is(115, poor.next(0));
        poor.pass(5);
        check.notNow(() -> poor.redeem(0));
        check.isText("redemption:0", Given.text(poor, 0));
        check.is(10, poor.funds(0));
        check.is(10, poor.takings());
    }

    private static void objectsStandApart() {
        check.about("promise 1");
        NameAuction x = Given.leased();
        NameAuction y = new NameAuction();
        x.lookUp(0, 0);
        check.is(0, y.today());
        check.is(Given.FREE, y.state(0));
        check.is(0, y.funds(0));
        check.is(0, y.flush(0));
        check.is(0, y.takings());
    }
}
