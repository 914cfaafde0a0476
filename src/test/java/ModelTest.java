import java.util.ArrayList;
import java.util.Comparator;
import java.util.HashMap;
import java.util.List;
import java.util.Map;
import java.util.SplittableRandom;

/**
 * Runs of 512 calls, always the same ones, against a second, slower telling of the document: it counts
 * the days that are left down where the class keeps dates, and sorts bids in lists.
 */
public final class ModelTest {
    private static final int RUNS = 3000;
    private static final int CALLS = 512;

    private static final String[] WORDS = {"free", "auction", "leased", "grace", "redemption", "frozen"};

    private static final Checks check = new Checks();

    public static void main(String[] args) {
        for (int run = 0; run < RUNS; run++) {
            oneRun(run);
        }
        check.end();
    }

    private static void oneRun(int run) {
        SplittableRandom random = new SplittableRandom(run);
        NameAuction x = new NameAuction();
        Model model = new Model();
        // Few names and owners make them meet more often; all of them show mistakes of numbering.
        int names = run % 3 == 0 ? 16 : 1 + run % 3;
        int owners = run % 2 == 0 ? 6 : 3;
        boolean isRich = run % 5 != 0;
        StringBuilder told = new StringBuilder();
        for (int i = 0; i < CALLS; i++) {
            int kind = pick(random);
            int a = argument(random, kind == 18 || kind == 16 || kind == 17 ? 3 : owners);
            int b = argument(random, names);
            int c = amount(random, kind, isRich);
            boolean yes = random.nextInt(2) == 0;
            String call = kind + "(" + a + " " + b + " " + c + " " + yes + ")";
            told.append(' ').append(call);
            String want = answer(() -> model.call(kind, a, b, c, yes));
            String got = answer(() -> call(x, kind, a, b, c, yes));
            if (!want.equals(got)) {
                check.about("run " + run + ":" + told);
                check.isText(want, got);
                return;
            }
        }
        check.isTrue(true, "the run answers as the model");
    }

    private static int pick(SplittableRandom random) {
        int[] weights = {6, 3, 16, 3, 8, 8, 8, 4, 6, 4, 4, 7, 8, 12, 1, 2, 8, 5, 1};
        int sum = 0;
        for (int w : weights) {
            sum += w;
        }
        int at = random.nextInt(sum);
        for (int kind = 0; kind < weights.length; kind++) {
            at -= weights[kind];
            if (at < 0) {
                return kind;
            }
        }
        return 0;
    }

    private static int argument(SplittableRandom random, int count) {
        return random.nextInt(60) == 0 ? odd(random, count) : random.nextInt(count);
    }

    private static int odd(SplittableRandom random, int count) {
        int[] values = {-1, 3, 6, 16, count, Integer.MIN_VALUE, Integer.MAX_VALUE};
        return values[random.nextInt(values.length)];
    }

    private static int amount(SplittableRandom random, int kind, boolean isRich) {
        if (random.nextInt(40) == 0) {
            int[] values = {-1, 0, 1, 9, 10, 200, 201, 999, 1000, 100000, 100001, Integer.MIN_VALUE, Integer.MAX_VALUE};
            int value = values[random.nextInt(values.length)];
            // Without its limit, pass would hardly end with more days.
            return kind == 13 ? Math.min(value, 1000) : value;
        }
        switch (kind) {
            case 0:
                return 1 + random.nextInt(isRich ? 2000 : 40);
            case 2:
                return 10 + random.nextInt(random.nextBoolean() ? 4 : 90);
            case 4:
                return 1 + random.nextInt(5);
            case 6:
                return random.nextInt(1000);
            case 8:
                return random.nextInt(13);
            case 13:
                return 1 + random.nextInt(random.nextInt(4) == 0 ? 110 : 8);
            default:
                return random.nextInt(50);
        }
    }

    private static String answer(Checks.Call call) {
        try {
            return "" + call.answer();
        } catch (RuntimeException e) {
            return e.getClass().getSimpleName();
        }
    }

    /** The lifetime in setRecord follows from the owner's number, to spare an argument. */
    private static int lifetimeOf(int a, int c) {
        return a < 0 ? 0 : a > 5 ? 51 : c % 7 == 0 ? 50 : 1 + a * 3;
    }

    private static long call(NameAuction x, int kind, int a, int b, int c, boolean yes) {
        switch (kind) {
            case 0: return x.deposit(a, c);
            case 1: return x.funds(a);
            case 2: return x.bid(a, b, c);
            case 3: return x.bids(b);
            case 4: return x.renew(b, c);
            case 5: return x.redeem(b);
            case 6: return x.setRecord(b, c, lifetimeOf(a, c));
            case 7: return x.state(b);
            case 8: return x.sign(b, c);
            case 9: return x.owner(b);
            case 10: return x.next(b);
            case 11: return x.dispute(a, b);
            case 12: return x.decide(b, yes);
            case 13: return x.pass(c);
            case 14: return x.today();
            case 15: return x.takings();
            case 16: return x.lookUp(a, b);
            case 17: return x.isStale(a, b) ? 1 : 0;
            default: return x.flush(a);
        }
    }

    private static final class Bid {
        final int owner;
        final int amount;

        Bid(int owner, int amount) {
            this.owner = owner;
            this.amount = amount;
        }
    }

    private static final class Lot {
        String state = "free";
        /** Days until the name goes on by itself; they stand still while it is frozen. */
        int left;
        int owner = -1;
        String frozenFrom = "";
        int challenger;
        int[] record = {0, 0};
        List<Bid> bids = new ArrayList<>();

        boolean is(String... states) {
            for (String s : states) {
                if (s.equals(state)) {
                    return true;
                }
            }
            return false;
        }

        void lease(int to) {
            state = "leased";
            owner = to;
            left = 100;
            record = new int[] {0, 10};
            bids.clear();
        }

        void free() {
            state = "free";
            owner = -1;
            bids.clear();
        }

        int[] answer() {
            boolean tells = is("leased", "grace") || is("frozen") && !frozenFrom.equals("auction");
            return tells ? record.clone() : new int[] {-1, 5};
        }
    }

    private static final class Model {
        final int[] funds = new int[6];
        final Lot[] lots = new Lot[16];
        /** Answer, lifetime and the days since it was taken, behind resolver * 16 + name. */
        final Map<Integer, int[]> kept = new HashMap<>();
        int today;
        int takings;

        Model() {
            for (int i = 0; i < 16; i++) {
                lots[i] = new Lot();
            }
        }

        static void index(int i, int count) {
            if (i < 0 || i >= count) {
                throw new IndexOutOfBoundsException();
            }
        }

        static void argument(boolean isGood) {
            if (!isGood) {
                throw new IllegalArgumentException();
            }
        }

        static void now(boolean isPossible) {
            if (!isPossible) {
                throw new IllegalStateException();
            }
        }

        Lot lot(int name) {
            index(name, 16);
            return lots[name];
        }

        long call(int kind, int a, int b, int c, boolean yes) {
            switch (kind) {
                case 0: return deposit(a, c);
                case 1: index(a, 6); return funds[a];
                case 2: return bid(a, b, c);
                case 3: return lot(b).bids.size();
                case 4: return renew(b, c);
                case 5: return redeem(b);
                case 6: return setRecord(b, c, lifetimeOf(a, c));
                case 7: return List.of(WORDS).indexOf(lot(b).state);
                case 8: return sign(b, c);
                case 9: return lot(b).owner;
                case 10: return lot(b).is("free", "frozen") ? -1 : today + lot(b).left;
                case 11: return dispute(a, b);
                case 12: return decide(b, yes);
                case 13: return pass(c);
                case 14: return today;
                case 15: return takings;
                case 16: return lookUp(a, b);
                case 17: return isStale(a, b) ? 1 : 0;
                default: return flush(a);
            }
        }

        int deposit(int owner, int amount) {
            index(owner, 6);
            argument(amount >= 1 && amount <= 100000);
            return funds[owner] += amount;
        }

        int bid(int owner, int name, int amount) {
            index(owner, 6);
            Lot lot = lot(name);
            argument(amount >= 10 && amount <= 100000);
            now(lot.is("free", "auction"));
            if (lot.is("free")) {
                lot.state = "auction";
                lot.left = 5;
            }
            lot.bids.removeIf(bid -> bid.owner == owner);
            lot.bids.add(new Bid(owner, amount));
            return today + lot.left;
        }

        int renew(int name, int hundreds) {
            Lot lot = lot(name);
            argument(hundreds >= 1 && hundreds <= 5);
            now(lot.is("leased", "grace"));
            int untilEnd = (lot.is("grace") ? lot.left - 10 : lot.left) + 100 * hundreds;
            now(untilEnd <= 600 && funds[lot.owner] >= 20 * hundreds);
            funds[lot.owner] -= 20 * hundreds;
            takings += 20 * hundreds;
            lot.state = "leased";
            lot.left = untilEnd;
            return today + untilEnd;
        }

        int redeem(int name) {
            Lot lot = lot(name);
            now(lot.is("redemption") && funds[lot.owner] >= 50);
            funds[lot.owner] -= 50;
            takings += 50;
            lot.lease(lot.owner);
            return today + 100;
        }

        int setRecord(int name, int record, int lifetime) {
            Lot lot = lot(name);
            argument(record >= 0 && record <= 999 && lifetime >= 1 && lifetime <= 50);
            now(lot.is("leased"));
            int before = lot.record[0];
            lot.record = new int[] {record, lifetime};
            return before;
        }

        char sign(int name, int place) {
            Lot lot = lot(name);
            String text = lot.owner < 0 ? lot.state : lot.state + ":" + lot.owner;
            index(place, text.length());
            return text.charAt(place);
        }

        int dispute(int challenger, int name) {
            index(challenger, 6);
            Lot lot = lot(name);
            now(lot.is("auction", "leased", "grace") && lot.owner != challenger);
            lot.bids.clear();
            lot.frozenFrom = lot.state;
            lot.challenger = challenger;
            lot.state = "frozen";
            return List.of(WORDS).indexOf(lot.frozenFrom);
        }

        int decide(int name, boolean isForChallenger) {
            Lot lot = lot(name);
            now(lot.is("frozen"));
            if (!lot.frozenFrom.equals("auction")) {
                lot.state = lot.frozenFrom;
                if (isForChallenger) {
                    lot.owner = lot.challenger;
                }
            } else if (isForChallenger) {
                lot.lease(lot.challenger);
            } else {
                lot.free();
            }
            return List.of(WORDS).indexOf(lot.state);
        }

        int pass(int days) {
            argument(days >= 1 && days <= 200);
            int won = 0;
            for (int i = 0; i < days; i++) {
                today++;
                for (int[] answer : kept.values()) {
                    answer[2]++;
                }
                for (Lot lot : lots) {
                    if (!lot.is("free", "frozen") && --lot.left == 0) {
                        won += goOn(lot);
                    }
                }
            }
            return won;
        }

        int goOn(Lot lot) {
            switch (lot.state) {
                case "auction":
                    return close(lot);
                case "leased":
                    lot.state = "grace";
                    lot.left = 10;
                    return 0;
                case "grace":
                    lot.state = "redemption";
                    lot.left = 10;
                    return 0;
                default:
                    lot.free();
                    return 0;
            }
        }

        int close(Lot lot) {
            List<Bid> bids = new ArrayList<>(lot.bids);
            bids.sort(Comparator.comparingInt(bid -> -bid.amount));
            bids.removeIf(bid -> funds[bid.owner] < bid.amount);
            if (bids.isEmpty()) {
                lot.free();
                return 0;
            }
            int price = Math.max(10, bids.size() > 1 ? bids.get(1).amount : 10);
            int winner = bids.get(0).owner;
            funds[winner] -= price;
            takings += price;
            lot.lease(winner);
            return 1;
        }

        boolean tells(int resolver, int name) {
            int[] answer = kept.get(resolver * 16 + name);
            return answer != null && answer[2] < answer[1];
        }

        int lookUp(int resolver, int name) {
            index(resolver, 3);
            Lot lot = lot(name);
            if (!tells(resolver, name)) {
                int[] answer = lot.answer();
                kept.put(resolver * 16 + name, new int[] {answer[0], answer[1], 0});
            }
            return kept.get(resolver * 16 + name)[0];
        }

        boolean isStale(int resolver, int name) {
            index(resolver, 3);
            Lot lot = lot(name);
            return tells(resolver, name) && kept.get(resolver * 16 + name)[0] != lot.answer()[0];
        }

        int flush(int resolver) {
            index(resolver, 3);
            int before = kept.size();
            kept.keySet().removeIf(key -> key / 16 == resolver);
            return before - kept.size();
        }
    }
}
