import java.util.ArrayList;
import java.util.List;
import java.util.function.Supplier;
import java.util.function.ToLongFunction;

/**
 * Which exception goes first if several apply, and that a call that throws changes nothing: a registry that
 * has refused a call is set beside one that was never asked, and both must answer alike from then on.
 */
public final class RefusalTest {
    private static final Checks check = new Checks();

    private static final int NO_NAME = 16;
    private static final int NO_OWNER = 6;
    private static final int NO_RESOLVER = 3;

    public static void main(String[] args) {
        indexGoesBeforeArgument();
        indexGoesBeforeState();
        indexGoesBeforeBoth();
        argumentGoesBeforeState();
        refusedDepositChangesNothing();
        refusedBidChangesNothing();
        refusedRenewChangesNothing();
        refusedRedeemChangesNothing();
        refusedSetRecordChangesNothing();
        refusedDisputeChangesNothing();
        refusedDecideChangesNothing();
        refusedPassChangesNothing();
        refusedQuestionChangesNothing();
        check.end();
    }

    private static void indexGoesBeforeArgument() {
        check.about("Terms: IndexOutOfBoundsException goes before IllegalArgumentException");
        NameAuction x = Given.leased();
        for (int amount : new int[] {0, 100001}) {
            check.noSuch(() -> x.deposit(-1, amount));
            check.noSuch(() -> x.deposit(NO_OWNER, amount));
        }
        for (int amount : new int[] {9, 100001}) {
            check.noSuch(() -> x.bid(-1, 1, amount));
            check.noSuch(() -> x.bid(NO_OWNER, 1, amount));
            check.noSuch(() -> x.bid(0, -1, amount));
            check.noSuch(() -> x.bid(0, NO_NAME, amount));
            check.noSuch(() -> x.bid(NO_OWNER, NO_NAME, amount));
        }
        for (int hundreds : new int[] {0, 6}) {
            check.noSuch(() -> x.renew(-1, hundreds));
            check.noSuch(() -> x.renew(NO_NAME, hundreds));
        }
        for (int name : new int[] {-1, NO_NAME}) {
            check.noSuch(() -> x.setRecord(name, -1, 1));
            check.noSuch(() -> x.setRecord(name, 1000, 1));
            check.noSuch(() -> x.setRecord(name, 1, 0));
            check.noSuch(() -> x.setRecord(name, 1, 51));
            check.noSuch(() -> x.setRecord(name, -1, 0));
        }
    }

    private static void indexGoesBeforeState() {
        check.about("Terms: IndexOutOfBoundsException goes before IllegalStateException");
        NameAuction leased = Given.leased();
        check.noSuch(() -> leased.bid(NO_OWNER, 0, 10));
        check.noSuch(() -> leased.bid(-1, 0, 10));
        check.noSuch(() -> leased.dispute(NO_OWNER, 1));
        check.noSuch(() -> leased.dispute(-1, 1));
        check.noSuch(() -> leased.dispute(0, NO_NAME));
        check.noSuch(() -> leased.dispute(NO_OWNER, NO_NAME));
        NameAuction frozen = Given.frozenLease();
        check.noSuch(() -> frozen.dispute(NO_OWNER, 0));
        check.noSuch(() -> frozen.dispute(-1, 0));
        NameAuction none = new NameAuction();
        for (int name : new int[] {-1, NO_NAME}) {
            check.noSuch(() -> none.renew(name, 1));
            check.noSuch(() -> none.redeem(name));
            check.noSuch(() -> none.setRecord(name, 1, 1));
            check.noSuch(() -> none.decide(name, true));
        }
    }

    private static void indexGoesBeforeBoth() {
        check.about("Terms: IndexOutOfBoundsException goes before both others");
        NameAuction x = Given.leased();
        check.noSuch(() -> x.bid(NO_OWNER, 0, 9));
        check.noSuch(() -> x.bid(-1, 0, 100001));
    }

    private static void argumentGoesBeforeState() {
        check.about("Terms: IllegalArgumentException goes before IllegalStateException");
        NameAuction[] unbiddable = {Given.leased(), Given.inGrace(), Given.inRedemption(), Given.frozenAuction(),
            Given.frozenLease()};
        for (NameAuction x : unbiddable) {
            check.outOfRange(() -> x.bid(1, 0, 9));
            check.outOfRange(() -> x.bid(1, 0, 100001));
        }
        NameAuction[] unrenewable = {new NameAuction(), Given.inAuction(), Given.inRedemption(), Given.frozenAuction(),
            Given.frozenLease(), Given.leasedWith(0)};
        for (NameAuction x : unrenewable) {
            check.outOfRange(() -> x.renew(0, 0));
            check.outOfRange(() -> x.renew(0, 6));
        }
        NameAuction[] notLeased = {new NameAuction(), Given.inAuction(), Given.inGrace(), Given.inRedemption(),
            Given.frozenAuction(), Given.frozenLease()};
        for (NameAuction x : notLeased) {
            check.outOfRange(() -> x.setRecord(0, -1, 1));
            check.outOfRange(() -> x.setRecord(0, 1000, 1));
            check.outOfRange(() -> x.setRecord(0, 1, 0));
            check.outOfRange(() -> x.setRecord(0, 1, 51));
        }
    }

    private static void refusedDepositChangesNothing() {
        check.about("Terms: a deposit that throws changes nothing");
        unchanged(Given::leased, x -> x.deposit(0, 0), x -> x.deposit(0, -5), x -> x.deposit(0, 100001),
            x -> x.deposit(-1, 5), x -> x.deposit(NO_OWNER, 5));
    }

    private static void refusedBidChangesNothing() {
        check.about("Terms: a bid that throws changes nothing");
        unchanged(Given::rich, x -> x.bid(0, 0, 9), x -> x.bid(0, 0, 100001), x -> x.bid(NO_OWNER, 0, 10),
            x -> x.bid(-1, 0, 10), x -> x.bid(0, NO_NAME, 10));
        // A refused bid neither takes the earlier one's place nor makes it the latest of its amount.
        unchanged(RefusalTest::tiedAuction, x -> x.bid(0, 0, 9), x -> x.bid(0, 0, 100001), x -> x.bid(1, 0, 0));
        List<Supplier<NameAuction>> taken = List.of(Given::leased, Given::inGrace, Given::inRedemption,
            Given::frozenAuction, Given::frozenLease, Given::frozenGrace);
        for (Supplier<NameAuction> given : taken) {
            unchanged(given, x -> x.bid(1, 0, 10), x -> x.bid(0, 0, 100000), x -> x.bid(0, 0, 9));
        }
    }

    private static void refusedRenewChangesNothing() {
        check.about("Terms: a renewal that throws changes nothing");
        List<Supplier<NameAuction>> unrenewable = List.of(Given::rich, Given::inAuction, Given::inRedemption,
            Given::frozenAuction, Given::frozenLease, Given::frozenGrace, () -> Given.leasedWith(19),
            RefusalTest::poorInGrace, RefusalTest::renewedFar);
        for (Supplier<NameAuction> given : unrenewable) {
            unchanged(given, x -> x.renew(0, 1), x -> x.renew(0, 5));
        }
        unchanged(Given::leased, x -> x.renew(0, 0), x -> x.renew(0, 6), x -> x.renew(NO_NAME, 1));
        unchanged(Given::inGrace, x -> x.renew(0, 0), x -> x.renew(0, 6));
    }

    private static void refusedRedeemChangesNothing() {
        check.about("Terms: a redeeming that throws changes nothing");
        List<Supplier<NameAuction>> unredeemable = List.of(Given::rich, Given::inAuction, Given::leased,
            Given::inGrace, Given::frozenAuction, Given::frozenLease, Given::frozenGrace, RefusalTest::poorInRedemption);
        for (Supplier<NameAuction> given : unredeemable) {
            unchanged(given, x -> x.redeem(0), x -> x.redeem(NO_NAME));
        }
    }

    private static void refusedSetRecordChangesNothing() {
        check.about("Terms: a setting of a record that throws changes nothing");
        List<Supplier<NameAuction>> notLeased = List.of(Given::rich, Given::inAuction, Given::inGrace,
            Given::inRedemption, Given::frozenAuction, Given::frozenLease, Given::frozenGrace);
        for (Supplier<NameAuction> given : notLeased) {
            unchanged(given, x -> x.setRecord(0, 77, 33));
        }
        unchanged(Given::leased, x -> x.setRecord(0, 77, 0), x -> x.setRecord(0, 77, 51), x -> x.setRecord(0, -1, 33),
            x -> x.setRecord(0, 1000, 33), x -> x.setRecord(-1, 77, 33));
    }

    private static void refusedDisputeChangesNothing() {
        check.about("Terms: a dispute that throws changes nothing");
        List<Supplier<NameAuction>> undisputable = List.of(Given::rich, Given::leased, Given::inGrace,
            Given::inRedemption, Given::frozenAuction, Given::frozenLease, Given::frozenGrace);
        for (Supplier<NameAuction> given : undisputable) {
            unchanged(given, x -> x.dispute(0, 0), x -> x.dispute(NO_OWNER, 0), x -> x.dispute(-1, 0));
        }
        unchanged(RefusalTest::frozenEarlier, x -> x.dispute(3, 0), x -> x.dispute(0, 0));
        unchanged(RefusalTest::tiedAuction, x -> x.dispute(NO_OWNER, 0), x -> x.dispute(0, NO_NAME));
    }

    private static void refusedDecideChangesNothing() {
        check.about("Terms: a decision that throws changes nothing");
        List<Supplier<NameAuction>> notFrozen = List.of(Given::rich, RefusalTest::tiedAuction, Given::leased,
            Given::inGrace, Given::inRedemption, RefusalTest::decidedEarlier);
        for (Supplier<NameAuction> given : notFrozen) {
            unchanged(given, x -> x.decide(0, true), x -> x.decide(0, false));
        }
        unchanged(Given::frozenLease, x -> x.decide(NO_NAME, true), x -> x.decide(-1, true));
    }

    private static void refusedPassChangesNothing() {
        check.about("Terms: a passing of days that throws changes nothing");
        List<Supplier<NameAuction>> each = List.of(Given::inAuction, Given::leased, Given::inGrace,
            Given::inRedemption, Given::frozenLease);
        for (Supplier<NameAuction> given : each) {
            unchanged(given, x -> x.pass(0), x -> x.pass(-1), x -> x.pass(201), x -> x.pass(1000));
        }
    }

    private static void refusedQuestionChangesNothing() {
        check.about("Terms: a question that throws changes nothing");
        unchanged(Given::leased, x -> x.lookUp(NO_RESOLVER, 0), x -> x.lookUp(-1, 0), x -> x.lookUp(0, NO_NAME),
            x -> x.lookUp(0, -1), x -> x.isStale(NO_RESOLVER, 0) ? 1 : 0, x -> x.isStale(0, NO_NAME) ? 1 : 0,
            x -> x.flush(NO_RESOLVER), x -> x.flush(-1), x -> x.funds(NO_OWNER), x -> x.bids(NO_NAME),
            x -> x.state(NO_NAME), x -> x.sign(NO_NAME, 0), x -> x.sign(0, 8), x -> x.sign(0, -1),
            x -> x.owner(NO_NAME), x -> x.next(NO_NAME));
    }

    /** Owners 0, 1 and 2 bid the same for name 0, in this order. */
    private static NameAuction tiedAuction() {
        NameAuction x = Given.rich();
        x.bid(0, 0, 50);
        x.bid(1, 0, 50);
        x.bid(2, 0, 50);
        return x;
    }

    private static NameAuction poorInGrace() {
        NameAuction x = Given.leasedWith(19);
        x.pass(100);
        return x;
    }

    private static NameAuction poorInRedemption() {
        NameAuction x = Given.leasedWith(49);
        x.pass(110);
        return x;
    }

    /** Nothing more can be renewed today. */
    private static NameAuction renewedFar() {
        NameAuction x = Given.leased();
        x.renew(0, 5);
        return x;
    }

    private static NameAuction frozenEarlier() {
        NameAuction x = Given.frozenLease();
        x.pass(3);
        return x;
    }

    private static NameAuction decidedEarlier() {
        NameAuction x = Given.frozenLease();
        x.pass(3);
        x.decide(0, false);
        x.pass(3);
        return x;
    }

    /** Sets a registry that refuses all of these calls beside one that is never asked. */
    @SafeVarargs
    private static void unchanged(Supplier<NameAuction> given, ToLongFunction<NameAuction>... refused) {
        for (int way = 0; way < 5; way++) {
            NameAuction asked = prepared(given);
            NameAuction unasked = prepared(given);
            for (ToLongFunction<NameAuction> call : refused) {
                check.refused(() -> call.applyAsLong(asked));
            }
            check.isText(goneOn(unasked, way), goneOn(asked, way));
        }
    }

    /** Adds answers that are kept, and an auction of name 1, to what is given. */
    private static NameAuction prepared(Supplier<NameAuction> given) {
        NameAuction x = given.get();
        if (x.state(0) == Given.LEASED) {
            x.setRecord(0, 123, 9);
        }
        x.lookUp(0, 0);
        x.lookUp(0, 1);
        x.lookUp(2, 15);
        x.bid(2, 1, 15);
        x.bid(3, 1, 12);
        return x;
    }

    private static String goneOn(NameAuction x, int way) {
        List<String> told = new ArrayList<>();
        look(x, told);
        switch (way) {
            case 0:
                break;
            case 1:
                for (int resolver = 0; resolver < 3; resolver++) {
                    told.add("flushed " + x.flush(resolver));
                }
                break;
            case 2:
                answers(x, told);
                break;
            default:
                deeds(x, told, way == 3);
        }
        days(x, told);
        return String.join(" ", told);
    }

    private static void look(NameAuction x, List<String> told) {
        for (int owner = 0; owner < 6; owner++) {
            told.add("funds " + x.funds(owner));
        }
        for (int name : new int[] {0, 1, 15}) {
            told.add("name " + x.state(name) + " " + x.bids(name) + " " + x.owner(name) + " " + x.next(name));
            for (int resolver = 0; resolver < 3; resolver++) {
                told.add("stale " + x.isStale(resolver, name));
            }
        }
        told.add("text " + Given.text(x, 0));
        told.add("today " + x.today() + " takings " + x.takings());
    }

    private static void answers(NameAuction x, List<String> told) {
        for (int day = 0; day < 14; day++) {
            for (int resolver = 0; resolver < 3; resolver++) {
                told.add("answer " + x.lookUp(resolver, 0) + " " + x.isStale(resolver, 0));
            }
            told.add("won " + x.pass(1));
        }
    }

    private static void deeds(NameAuction x, List<String> told, boolean isForChallenger) {
        told.add(tried(() -> x.decide(0, isForChallenger)));
        told.add(tried(() -> x.redeem(0)));
        told.add(tried(() -> x.renew(0, 1)));
        told.add(tried(() -> x.setRecord(0, 1, 1)));
        told.add(tried(() -> x.bid(4, 0, 50)));
        told.add(tried(() -> x.bid(5, 0, 51)));
        told.add("owner " + x.owner(0) + " next " + x.next(0));
    }

    private static String tried(Checks.Call call) {
        try {
            return "" + call.answer();
        } catch (RuntimeException e) {
            return e.getClass().getSimpleName();
        }
    }

    private static void days(NameAuction x, List<String> told) {
        for (int days : new int[] {1, 1, 1, 1, 1, 1, 85, 9, 1, 9, 1, 9, 1}) {
            told.add("won " + x.pass(days) + " today " + x.today() + " takings " + x.takings());
            for (int name = 0; name < 2; name++) {
                told.add(x.state(name) + " " + x.bids(name) + " " + x.owner(name) + " " + x.next(name));
            }
            for (int owner = 0; owner < 6; owner++) {
                told.add("" + x.funds(owner));
            }
        }
    }
}
