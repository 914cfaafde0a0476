/** The edges of promises 18 to 20, of records and of resolvers: a test for each sentence that has one. */
public final class ResolverEdgesTest {
    private static final Checks check = new Checks();

    public static void main(String[] args) {
        lookUpResolvers();
        lookUpNames();
        lookUpNothing();
        recordIsToldWhereThereIsOne();
        recordIsZeroAtFirst();
        recordZeroIsNoNothing();
        recordStaysOtherwise();
        lifetimeOfARecordIsTenAtFirst();
        lifetimeStaysOtherwise();
        lifetimeOfNothingIsFive();
        answerYoungerThanItsLifetime();
        lifetimeIsTheOneOfTheTaking();
        askingDoesNotMakeYounger();
        takenAnewIsYoungAgain();
        resolversStandApart();

        isStaleResolvers();
        isStaleNames();
        isStaleWithoutAnswer();
        isStaleWhenOutlived();
        isStaleComparesWithTheAnswerOfToday();
        isStaleWhenTheStateGoesOn();
        isStaleTakesNothing();

        flushResolvers();
        flushCounts();
        flushCountsOutlivedOnes();
        flushForgets();
        check.end();
    }

    private static void lookUpResolvers() {
        check.about("18: resolver 0 to 2, else IndexOutOfBoundsException");
        NameAuction x = Given.leased();
        for (int resolver = 0; resolver < 3; resolver++) {
            check.is(0, x.lookUp(resolver, 0));
            check.is(1, x.flush(resolver));
        }
        for (int resolver : Given.NOT_RESOLVERS) {
            check.noSuch(() -> x.lookUp(resolver, 0));
        }
    }

    private static void lookUpNames() {
        check.about("18: name 0 to 15, else IndexOutOfBoundsException");
        NameAuction x = Given.rich();
        x.bid(0, 0, 10);
        x.bid(0, 15, 10);
        x.pass(5);
        check.is(0, x.lookUp(0, 0));
        check.is(0, x.lookUp(0, 15));
        check.is(-1, x.lookUp(0, 1));
        check.is(-1, x.lookUp(0, 14));
        for (int name : Given.NOT_NAMES) {
            check.noSuch(() -> x.lookUp(0, name));
        }
        check.is(4, x.flush(0));
    }

    private static void lookUpNothing() {
        check.about("Terms: the registry's answer for any other name is -1");
        NameAuction redeemable = Given.leased();
        redeemable.setRecord(0, 7, 7);
        Given.passTo(redeemable, 115);
        NameAuction free = Given.leased();
        free.setRecord(0, 7, 7);
        Given.passTo(free, 125);
        NameAuction again = Given.leased();
        again.setRecord(0, 7, 7);
        Given.passTo(again, 125);
        again.bid(2, 0, 10);
        NameAuction frozen = Given.leased();
        frozen.setRecord(0, 7, 7);
        Given.passTo(frozen, 125);
        frozen.bid(2, 0, 10);
        frozen.dispute(1, 0);
        NameAuction[] others = {new NameAuction(), Given.inAuction(), Given.frozenAuction(), redeemable, free, again, frozen};
        for (NameAuction x : others) {
            check.is(-1, x.lookUp(0, 0));
        }
    }

    private static void recordIsToldWhereThereIsOne() {
        check.about("Terms: a name that is leased, in grace, or frozen behind one of these has a record");
        for (int day : new int[] {5, 104, 105, 114, 115}) {
            NameAuction x = Given.leased();
            x.setRecord(0, 7, 7);
            Given.passTo(x, day);
            check.is(day < 115 ? 7 : -1, x.lookUp(0, 0));
            if (day < 115) {
                x.dispute(1, 0);
                check.is(7, x.lookUp(1, 0));
                x.pass(200);
                check.is(7, x.lookUp(2, 0));
            }
        }
    }

    private static void recordIsZeroAtFirst() {
        check.about("Terms: the record is 0 when the name is leased by an auction, a dispute about one, or redeeming");
        check.is(0, Given.leased().lookUp(0, 0));
        NameAuction second = Given.leased();
        second.setRecord(0, 7, 1);
        Given.passTo(second, 125);
        second.bid(1, 0, 10);
        second.pass(5);
        check.is(0, second.lookUp(0, 0));
        check.is(0, second.setRecord(0, 8, 1));
        NameAuction disputed = Given.leased();
        disputed.setRecord(0, 7, 1);
        Given.passTo(disputed, 125);
        disputed.bid(1, 0, 10);
        disputed.dispute(2, 0);
        disputed.decide(0, true);
        check.is(0, disputed.lookUp(0, 0));
        check.is(0, disputed.setRecord(0, 8, 1));
        NameAuction redeemed = Given.leased();
        redeemed.setRecord(0, 7, 1);
        Given.passTo(redeemed, 115);
        redeemed.redeem(0);
        check.is(0, redeemed.lookUp(0, 0));
        check.is(0, redeemed.setRecord(0, 8, 1));
    }

    private static void recordZeroIsNoNothing() {
        check.about("18: a record of 0 is an answer, -1 is none");
        NameAuction x = Given.leased();
        x.setRecord(0, 0, 1);
        check.is(0, x.lookUp(0, 0));
        x.setRecord(0, 999, 1);
        x.pass(1);
        check.is(999, x.lookUp(0, 0));
    }

    /** Name 0 with the record 7 after something that leaves it, one registry for each such thing. */
    private static NameAuction[] withRecordLeft(int lifetime) {
        NameAuction[] each = new NameAuction[7];
        for (int i = 0; i < each.length; i++) {
            each[i] = Given.leased();
            each[i].setRecord(0, 7, lifetime);
        }
        each[1].renew(0, 1);
        Given.passTo(each[2], 105);
        Given.passTo(each[3], 114);
        each[3].renew(0, 1);
        each[4].dispute(1, 0);
        each[4].decide(0, false);
        each[5].dispute(1, 0);
        each[5].decide(0, true);
        Given.passTo(each[6], 105);
        each[6].dispute(1, 0);
        each[6].pass(30);
        each[6].decide(0, true);
        return each;
    }

    private static void recordStaysOtherwise() {
        check.about("Terms: the record stays otherwise");
        for (NameAuction x : withRecordLeft(1)) {
            check.is(7, x.lookUp(0, 0));
            if (x.state(0) == Given.GRACE) {
                x.renew(0, 1);
            }
            check.is(7, x.setRecord(0, 8, 1));
        }
    }

    /** Lets the record change, once asked, and tells how long resolver 0 goes on with the answer of before. */
    private static int daysTold(NameAuction x, int before) {
        check.is(before, x.lookUp(0, 0));
        x.renew(0, 1);
        x.setRecord(0, 500, 1);
        int days = 0;
        while (days < 100 && x.lookUp(0, 0) == before) {
            days++;
            x.pass(1);
        }
        check.is(500, x.lookUp(0, 0));
        return days;
    }

    private static void lifetimeOfARecordIsTenAtFirst() {
        check.about("Terms: the lifetime is 10 when the name is leased by an auction, a dispute about one, or redeeming");
        check.is(10, daysTold(Given.leased(), 0));
        NameAuction second = Given.leased();
        second.setRecord(0, 7, 50);
        Given.passTo(second, 125);
        second.bid(1, 0, 10);
        second.pass(5);
        check.is(10, daysTold(second, 0));
        NameAuction disputed = Given.leased();
        disputed.setRecord(0, 7, 50);
        Given.passTo(disputed, 125);
        disputed.bid(1, 0, 10);
        disputed.dispute(2, 0);
        disputed.decide(0, true);
        check.is(10, daysTold(disputed, 0));
        NameAuction redeemed = Given.leased();
        redeemed.setRecord(0, 7, 50);
        Given.passTo(redeemed, 115);
        redeemed.redeem(0);
        check.is(10, daysTold(redeemed, 0));
    }

    private static void lifetimeStaysOtherwise() {
        check.about("Terms: the lifetime stays otherwise");
        for (int lifetime : new int[] {1, 2, 49, 50}) {
            for (NameAuction x : withRecordLeft(lifetime)) {
                check.is(lifetime, daysTold(x, 7));
            }
        }
        // While the name is in grace or frozen, its answers have the lifetime of its record, not that of nothing.
        NameAuction frozen = Given.leased();
        frozen.setRecord(0, 7, 8);
        frozen.dispute(1, 0);
        check.is(7, frozen.lookUp(0, 0));
        frozen.decide(0, false);
        frozen.setRecord(0, 9, 1);
        frozen.pass(7);
        check.is(7, frozen.lookUp(0, 0));
        frozen.pass(1);
        check.is(9, frozen.lookUp(0, 0));
    }

    private static void lifetimeOfNothingIsFive() {
        check.about("Terms: -1, with the lifetime 5");
        // On its day the name is free, in an auction, in redemption, or frozen behind an auction; then it is leased.
        NameAuction[] each = {Given.rich(), Given.inAuction(), Given.inRedemption(), Given.frozenAuction()};
        for (int i = 0; i < each.length; i++) {
            NameAuction x = each[i];
            check.is(-1, x.lookUp(0, 0));
            if (i == 2) {
                x.redeem(0);
            } else {
                if (i == 0) {
                    x.bid(0, 0, 10);
                }
                if (i != 3) {
                    x.dispute(1, 0);
                }
                x.decide(0, true);
            }
            check.is(2, x.state(0));
            check.is(-1, x.lookUp(0, 0));
            x.pass(4);
            check.is(-1, x.lookUp(0, 0));
            check.is(true, x.isStale(0, 0));
            x.pass(1);
            check.is(false, x.isStale(0, 0));
            check.is(0, x.lookUp(0, 0));
        }
    }

    private static void answerYoungerThanItsLifetime() {
        check.about("Terms: the days since it was taken are fewer than the lifetime");
        for (int lifetime : new int[] {1, 2, 49, 50}) {
            NameAuction x = Given.leased();
            x.setRecord(0, 7, lifetime);
            check.is(7, x.lookUp(0, 0));
            x.setRecord(0, 8, 1);
            check.is(7, x.lookUp(0, 0));
            if (lifetime > 1) {
                x.pass(lifetime - 1);
                check.is(7, x.lookUp(0, 0));
            }
            x.pass(1);
            check.is(8, x.lookUp(0, 0));
        }
    }

    private static void lifetimeIsTheOneOfTheTaking() {
        check.about("Terms: with its lifetime as it is then");
        NameAuction longer = Given.leased();
        longer.setRecord(0, 7, 2);
        longer.lookUp(0, 0);
        longer.setRecord(0, 8, 50);
        longer.pass(1);
        check.is(7, longer.lookUp(0, 0));
        longer.pass(1);
        check.is(8, longer.lookUp(0, 0));
        NameAuction shorter = Given.leased();
        shorter.setRecord(0, 7, 50);
        shorter.lookUp(0, 0);
        shorter.setRecord(0, 8, 1);
        shorter.pass(49);
        check.is(7, shorter.lookUp(0, 0));
        shorter.pass(1);
        check.is(8, shorter.lookUp(0, 0));
    }

    private static void askingDoesNotMakeYounger() {
        check.about("Terms: an answer that is told is not taken again");
        NameAuction x = Given.leased();
        x.setRecord(0, 7, 3);
        x.lookUp(0, 0);
        x.setRecord(0, 8, 3);
        for (int day = 0; day < 3; day++) {
            check.is(7, x.lookUp(0, 0));
            x.pass(1);
        }
        check.is(8, x.lookUp(0, 0));
    }

    private static void takenAnewIsYoungAgain() {
        check.about("Terms: otherwise it takes the registry's answer of today and keeps it");
        NameAuction x = Given.leased();
        x.setRecord(0, 7, 3);
        x.lookUp(0, 0);
        x.pass(10);
        check.is(7, x.lookUp(0, 0));
        x.setRecord(0, 8, 3);
        x.pass(2);
        check.is(7, x.lookUp(0, 0));
        check.is(true, x.isStale(0, 0));
        x.pass(1);
        check.is(8, x.lookUp(0, 0));
        check.is(1, x.flush(0));
    }

    private static void resolversStandApart() {
        check.about("Terms: each resolver keeps its own answers");
        NameAuction x = Given.leased();
        for (int resolver = 0; resolver < 3; resolver++) {
            x.setRecord(0, 100 + resolver, 50);
            check.is(100 + resolver, x.lookUp(resolver, 0));
        }
        for (int resolver = 0; resolver < 3; resolver++) {
            check.is(100 + resolver, x.lookUp(resolver, 0));
            check.is(resolver < 2, x.isStale(resolver, 0));
        }
        x.flush(1);
        check.is(100, x.lookUp(0, 0));
        check.is(102, x.lookUp(1, 0));
    }

    private static void isStaleResolvers() {
        check.about("19: resolver 0 to 2, else IndexOutOfBoundsException");
        NameAuction x = Given.leased();
        for (int resolver = 0; resolver < 3; resolver++) {
            x.lookUp(resolver, 0);
        }
        x.setRecord(0, 1, 1);
        for (int resolver = 0; resolver < 3; resolver++) {
            check.is(true, x.isStale(resolver, 0));
        }
        for (int resolver : Given.NOT_RESOLVERS) {
            check.noSuch(() -> x.isStale(resolver, 0) ? 1 : 0);
        }
    }

    private static void isStaleNames() {
        check.about("19: name 0 to 15, else IndexOutOfBoundsException");
        NameAuction x = Given.rich();
        x.bid(0, 0, 10);
        x.bid(0, 15, 10);
        x.pass(4);
        x.lookUp(0, 0);
        x.lookUp(0, 1);
        x.lookUp(0, 15);
        x.pass(1);
        check.is(true, x.isStale(0, 0));
        check.is(false, x.isStale(0, 1));
        check.is(false, x.isStale(0, 14));
        check.is(true, x.isStale(0, 15));
        for (int name : Given.NOT_NAMES) {
            check.noSuch(() -> x.isStale(0, name) ? 1 : 0);
        }
    }

    private static void isStaleWithoutAnswer() {
        check.about("19: false if the resolver keeps no answer");
        NameAuction x = Given.leased();
        x.setRecord(0, 9, 9);
        check.is(false, x.isStale(0, 0));
        x.lookUp(0, 0);
        x.setRecord(0, 8, 9);
        check.is(true, x.isStale(0, 0));
        check.is(false, x.isStale(1, 0));
        x.flush(0);
        check.is(false, x.isStale(0, 0));
    }

    private static void isStaleWhenOutlived() {
        check.about("19: an answer that it would tell today");
        for (int lifetime : new int[] {1, 2, 50}) {
            NameAuction x = Given.leased();
            x.setRecord(0, 7, lifetime);
            x.lookUp(0, 0);
            x.setRecord(0, 8, 50);
            check.is(true, x.isStale(0, 0));
            if (lifetime > 1) {
                x.pass(lifetime - 1);
                check.is(true, x.isStale(0, 0));
            }
            x.pass(1);
            check.is(false, x.isStale(0, 0));
            x.pass(1);
            check.is(false, x.isStale(0, 0));
        }
    }

    private static void isStaleComparesWithTheAnswerOfToday() {
        check.about("19: that is not the registry's answer of today");
        NameAuction x = Given.leased();
        x.setRecord(0, 7, 50);
        x.lookUp(0, 0);
        check.is(false, x.isStale(0, 0));
        x.setRecord(0, 8, 50);
        check.is(true, x.isStale(0, 0));
        x.setRecord(0, 7, 1);
        check.is(false, x.isStale(0, 0));
        x.setRecord(0, 6, 50);
        check.is(true, x.isStale(0, 0));
    }

    private static void isStaleWhenTheStateGoesOn() {
        check.about("19: the registry's answer changes with the state");
        NameAuction x = Given.inAuction();
        x.pass(1);
        x.lookUp(0, 0);
        x.pass(3);
        check.is(false, x.isStale(0, 0));
        x.pass(1);
        check.is(true, x.isStale(0, 0));
        Given.passTo(x, 113);
        check.is(0, x.lookUp(0, 0));
        x.pass(1);
        check.is(false, x.isStale(0, 0));
        x.pass(1);
        check.is(true, x.isStale(0, 0));
        x.redeem(0);
        check.is(false, x.isStale(0, 0));
    }

    private static void isStaleTakesNothing() {
        check.about("19: asking whether an answer is stale takes none");
        NameAuction x = Given.leased();
        x.isStale(0, 0);
        check.is(0, x.flush(0));
        x.setRecord(0, 7, 2);
        x.lookUp(0, 0);
        x.setRecord(0, 8, 2);
        x.pass(1);
        check.is(true, x.isStale(0, 0));
        check.is(7, x.lookUp(0, 0));
        x.pass(1);
        check.is(false, x.isStale(0, 0));
        x.setRecord(0, 9, 2);
        check.is(9, x.lookUp(0, 0));
        // Nor does it let one that is outlived go.
        x.pass(2);
        check.is(false, x.isStale(0, 0));
        check.is(1, x.flush(0));
    }

    private static void flushResolvers() {
        check.about("20: resolver 0 to 2, else IndexOutOfBoundsException");
        NameAuction x = new NameAuction();
        for (int resolver = 0; resolver < 3; resolver++) {
            for (int name = 0; name <= resolver; name++) {
                x.lookUp(resolver, name);
            }
        }
        for (int resolver : Given.NOT_RESOLVERS) {
            check.noSuch(() -> x.flush(resolver));
        }
        check.is(3, x.flush(2));
        check.is(1, x.flush(0));
        check.is(2, x.flush(1));
    }

    private static void flushCounts() {
        check.about("20: returns how many it kept");
        NameAuction x = new NameAuction();
        check.is(0, x.flush(0));
        x.lookUp(0, 15);
        check.is(1, x.flush(0));
        check.is(0, x.flush(0));
        for (int name = 0; name < 16; name++) {
            x.lookUp(0, name);
            x.lookUp(0, name);
        }
        check.is(16, x.flush(0));
        check.is(0, x.flush(0));
    }

    private static void flushCountsOutlivedOnes() {
        check.about("20: outlived ones too");
        for (int days : new int[] {4, 5, 6, 200}) {
            NameAuction x = new NameAuction();
            x.lookUp(0, 0);
            x.lookUp(0, 15);
            x.pass(days);
            check.is(2, x.flush(0));
        }
        // An outlived answer and the one that takes its place are one.
        NameAuction y = new NameAuction();
        y.lookUp(0, 0);
        y.pass(5);
        y.lookUp(0, 0);
        check.is(1, y.flush(0));
    }

    private static void flushForgets() {
        check.about("20: lets a resolver forget all answers");
        NameAuction x = Given.rich();
        x.bid(0, 0, 10);
        x.bid(0, 15, 10);
        x.pass(5);
        x.lookUp(0, 0);
        x.lookUp(0, 15);
        x.lookUp(1, 0);
        x.setRecord(0, 7, 50);
        x.setRecord(15, 8, 50);
        check.is(2, x.flush(0));
        check.is(false, x.isStale(0, 0));
        check.is(7, x.lookUp(0, 0));
        check.is(8, x.lookUp(0, 15));
        check.is(0, x.lookUp(1, 0));
        check.is(true, x.isStale(1, 0));
    }
}
