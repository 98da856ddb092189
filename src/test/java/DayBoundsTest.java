import java.util.NoSuchElementException;

/**
 * Each sentence of the parts 5 to 7 of "Terms" (a new day, redemption and breakage, the log),
 * and of the promises 9, 14, 42 to 47, 49 and 50, that names a boundary case.
 */
public final class DayBoundsTest {
    private static final Checks CHECKS = new Checks();
    private static final Class<?> ARGUMENT = IllegalArgumentException.class;
    private static final Class<?> STATE = IllegalStateException.class;
    private static final Class<?> ELEMENT = NoSuchElementException.class;

    public static void main(String[] args) {
        daysOfAnAdvance();
        theLastDay();
        expiryOnItsDay();
        expiryAmongOthers();
        expiryInOrder();
        expiryBeforeTheTiers();
        tiersInOrder();
        manyDaysAreOneByOne();
        redeemOneAndAll();
        redeemFromTheAccountFirst();
        partsOfALife();
        partAtMostNine();
        partsOfSeveralCohorts();
        partOfWhatWasGiven();
        estimateWithoutExperience();
        estimateOfPartsThatAreAtLeast();
        breakageIsASum();
        breakageGreatest();
        expiringWithinDays();
        nextExpiryOfBoth();
        redeemedWithParts();
        logKeepsThirty();
        logKeepsThirtyOfADay();
        logKinds();
        logHasNoExpiryOfNothing();
        logIsSilent();
        CHECKS.finish("DayBoundsTest");
    }

    private static PointsLedger shop(String more) {
        return Checks.loaded("category food 10 0;member ann;member bob;member cy" + more);
    }

    /** Promise 14: "days: 1 to 400" */
    private static void daysOfAnAdvance() {
        PointsLedger l = shop("");
        CHECKS.equal("a day", l.advance(1), 0);
        CHECKS.equal("is one day", l.today(), 1);
        CHECKS.equal("400 days", l.advance(400), 0);
        CHECKS.equal("are 400 days", l.today(), 401);
        for (int days : new int[] {0, 401, -1}) {
            CHECKS.refused("advance by " + days, ARGUMENT, () -> shop(""), x -> x.advance(days));
        }
    }

    /** Promise 18: "Returns 0 to 9999.", and "or the day would be greater than 9999" */
    private static void theLastDay() {
        PointsLedger l = lastDay();
        CHECKS.equal("the last day", l.today(), 9999);
        CHECKS.refused("a day behind it", ARGUMENT, DayBoundsTest::lastDay, x -> x.advance(1));
        CHECKS.equal("the promotion of the last day", l.purchase(0, 0, 100), 60);
        CHECKS.equal("behind the last day", l.cohort(0, 0, 1), 10004);
        CHECKS.equal("expires within five", l.expiringWithin(0, 5), 60);
    }

    private static PointsLedger lastDay() {
        PointsLedger l = shop(";life 5;promo food 9999 9999 500");
        for (int i = 0; i < 25; i++) {
            l.advance(i < 24 ? 400 : 399);
        }
        return l;
    }

    /** "all cohorts whose day of expiry is not greater than the present day are removed" */
    private static void expiryOnItsDay() {
        PointsLedger l = shop(";life 3;house h 50");
        l.join(0, 0);
        l.purchase(0, 0, 200);
        CHECKS.equal("a day before", l.advance(2), 0);
        CHECKS.account("a day before", l, 0, 10, 3);
        CHECKS.pool("a day before", l, 0, 10, 3, 0);
        CHECKS.equal("on the day", l.advance(1), 20);
        CHECKS.account("on the day", l, 0);
        CHECKS.pool("on the day", l, 0);
        CHECKS.equal("expired points", l.total(2), 20);
        CHECKS.equal("a day behind", l.advance(1), 0);
        CHECKS.equal("expired once", l.total(2), 20);
        l = shop(";life 3");
        l.purchase(0, 0, 100);
        l.advance(1);
        l.purchase(0, 0, 200);
        CHECKS.equal("the first alone", l.advance(2), 10);
        CHECKS.account("the other a day later", l, 0, 20, 4);
        CHECKS.equal("both over many days", l.advance(400), 20);
    }

    /** What does not expire stays as it is, before and behind what does. */
    private static void expiryAmongOthers() {
        PointsLedger l = shop(";life 5;house h 100;house k 100");
        l.purchase(1, 0, 100);
        l.join(0, 1);
        l.purchase(0, 0, 10);
        l.advance(1);
        l.purchase(2, 0, 200);
        l.purchase(1, 0, 120);
        l.join(1, 0);
        l.purchase(1, 0, 20);
        l.advance(1);
        l.leave(0);
        l.purchase(0, 0, 300);
        l.join(0, 1);
        l.purchase(0, 0, 30);
        l.transfer(0, 2, 1);
        CHECKS.equal("of bob and cy", l.advance(3), 10 + 1);
        CHECKS.account("ann's stay", l, 0, 30, 7);
        CHECKS.account("bob's later ones stay", l, 1, 12, 6);
        CHECKS.account("cy's later ones stay", l, 2, 20, 6);
        CHECKS.pool("the first pool stays", l, 0, 2, 6, 1);
        CHECKS.pool("the second pool stays", l, 1, 3, 7, 0);
        CHECKS.equal("of bob, cy and the first pool", l.advance(1), 12 + 20 + 2);
        CHECKS.account("ann's stay still", l, 0, 30, 7);
        CHECKS.pool("the second pool stays still", l, 1, 3, 7, 0);
        CHECKS.equal("the rest", l.advance(1), 33);
        CHECKS.equal("nothing is left", l.total(5), 0);
    }

    /** "first in the accounts of all members, in the order of their numbers, then in the pools" */
    private static void expiryInOrder() {
        PointsLedger l = shop(";life 3;house h 50;house k 50");
        l.join(0, 1);
        l.join(1, 0);
        for (int member = 2; member >= 0; member--) {
            l.purchase(member, 0, 100 * (member + 2));
        }
        CHECKS.equal("all on one day", l.advance(3), 90);
        CHECKS.logged("ann", l, 4, 4, 3, 0, 10);
        CHECKS.logged("bob", l, 3, 4, 3, 1, 15);
        CHECKS.logged("cy", l, 2, 4, 3, 2, 40);
        CHECKS.logged("the first pool", l, 1, 5, 3, 0, 15);
        CHECKS.logged("the second pool", l, 0, 5, 3, 1, 10);
        CHECKS.equal("an entry each", l.logSize(), 3 + 5);
        l = shop(";life 3;house h 100");
        l.join(0, 0);
        l.join(1, 0);
        l.purchase(0, 0, 100);
        l.purchase(1, 0, 200);
        l.advance(3);
        CHECKS.logged("all contributors in one entry", l, 0, 5, 3, 0, 30);
        CHECKS.equal("no other entry", l.logSize(), 3);
    }

    /** "Then the tiers of all members are checked." */
    private static void expiryBeforeTheTiers() {
        PointsLedger l = shop(";life 3;window 3;grace 0;tier a 0 0;tier b 10 0");
        l.purchase(0, 0, 100);
        l.purchase(1, 0, 200);
        l.advance(3);
        CHECKS.logged("ann's points", l, 3, 4, 3, 0, 10);
        CHECKS.logged("bob's points", l, 2, 4, 3, 1, 20);
        CHECKS.logged("ann's tier", l, 1, 6, 3, 0, 0);
        CHECKS.logged("bob's tier", l, 0, 6, 3, 1, 0);
    }

    private static void tiersInOrder() {
        PointsLedger l = Checks.loaded("category k 10 0;tier low 0 0;tier high 1 0;window 1;grace 0;"
                + "member a;member b;member c;member d;member e;member f;member g;member h;"
                + "member i;member j;member kk;member l");
        for (int member = 11; member >= 0; member--) {
            l.purchase(member, 0, 10);
        }
        l.advance(1);
        for (int member = 0; member < 12; member++) {
            CHECKS.logged("all members", l, 11 - member, 6, 1, member, 0);
        }
    }

    /** "When a day passes": each of many days on its own. */
    private static void manyDaysAreOneByOne() {
        PointsLedger l = shop(";life 3;window 2;grace 1;tier a 0 0;tier b 10 0");
        l.purchase(0, 0, 100);
        l.advance(1);
        l.purchase(1, 0, 100);
        CHECKS.equal("at once", l.advance(9), 20);
        CHECKS.logged("day 4: bob's tier", l, 0, 6, 4, 1, 0);
        CHECKS.logged("day 4: bob's points", l, 1, 4, 4, 1, 10);
        CHECKS.logged("day 3: ann's tier", l, 2, 6, 3, 0, 0);
    }

    private static PointsLedger rich() {
        PointsLedger l = shop(";life 50;house h 40");
        l.join(0, 0);
        l.join(1, 0);
        l.purchase(0, 0, 500);
        l.purchase(1, 0, 100);
        return l;
    }

    /** Promise 9: "points: 1 or more", "if the account and the pool together have fewer" */
    private static void redeemOneAndAll() {
        CHECKS.equal("one point", rich().redeem(0, 1), 0);
        CHECKS.equal("all points", rich().redeem(0, 54), 24);
        CHECKS.refused("one more than all", STATE, DayBoundsTest::rich, l -> l.redeem(0, 55));
        CHECKS.refused("no point", ARGUMENT, DayBoundsTest::rich, l -> l.redeem(0, 0));
        CHECKS.refused("without any points", STATE, DayBoundsTest::rich, l -> l.redeem(2, 1));
        PointsLedger l = rich();
        l.redeem(0, 54);
        CHECKS.equal("nothing is left", l.available(0), 0);
        CHECKS.thrown("not one more", STATE, l, x -> x.redeem(0, 1));
        CHECKS.equal("bob has his account", l.redeem(1, 6), 0);
        CHECKS.equal("redeemed", l.total(1), 60);
    }

    /** "taken from the member's account first and then from the pool" */
    private static void redeemFromTheAccountFirst() {
        int[][] due = {{29, 0, 1, 24}, {30, 0, 0, 24}, {31, 1, 0, 23}, {53, 23, 0, 1}, {54, 24, 0, 0}};
        for (int[] row : due) {
            PointsLedger l = rich();
            CHECKS.equal("of the pool, of " + row[0], l.redeem(0, row[0]), row[1]);
            CHECKS.equal("account behind " + row[0], l.balance(0), row[2]);
            CHECKS.equal("pool behind " + row[0], l.poolBalance(0), row[3]);
            CHECKS.logged("the log of " + row[0], l, 0, 2, 0, 0, row[0]);
        }
        PointsLedger l = rich();
        l.advance(1);
        l.purchase(0, 0, 100);
        CHECKS.equal("later points of the account before earlier ones of the pool", l.redeem(0, 36), 0);
        CHECKS.pool("the pool is whole", l, 0, 20, 50, 0, 4, 50, 1, 4, 51, 0);
    }

    /** Redeems one point on a day of a life; returns the part. */
    private static int partOn(int life, int day) {
        PointsLedger l = shop(";life " + life);
        l.purchase(0, 0, 100);
        for (int left = day; left > 0; left -= Math.min(left, 400)) {
            l.advance(Math.min(left, 400));
        }
        l.redeem(0, 1);
        int part = 0;
        int all = 0;
        for (int k = 0; k <= 9; k++) {
            part += k * l.redeemedWith(k);
            all += l.redeemedWith(k);
        }
        CHECKS.equal("one part for one point", all, 1);
        return part;
    }

    /** "(present day - (day of expiry - life)) * 10 / life" */
    private static void partsOfALife() {
        for (int day = 0; day < 10; day++) {
            CHECKS.equal("day " + day + " of 10", partOn(10, day), day);
        }
        int[][] due = {{20, 1, 0}, {20, 2, 1}, {20, 3, 1}, {20, 17, 8}, {20, 18, 9}, {20, 19, 9},
            {365, 36, 0}, {365, 37, 1}, {365, 328, 8}, {365, 329, 9}, {365, 364, 9}, {1000, 99, 0},
            {1000, 100, 1}, {1000, 899, 8}, {1000, 900, 9}, {1000, 999, 9}};
        for (int[] row : due) {
            CHECKS.equal("day " + row[1] + " of " + row[0], partOn(row[0], row[1]), row[2]);
        }
    }

    /** "but at most 9": the last day of each life, and that of the shortest ones. */
    private static void partAtMostNine() {
        int[][] due = {{1, 0}, {2, 5}, {3, 6}, {4, 7}, {5, 8}, {6, 8}, {9, 8}, {10, 9}, {11, 9},
            {100, 9}};
        for (int[] row : due) {
            CHECKS.equal("the last day of " + row[0], partOn(row[0], row[0] - 1), row[1]);
        }
    }

    /** Each cohort has its own part, whoever's it is. */
    private static void partsOfSeveralCohorts() {
        PointsLedger l = shop(";life 10;house h 100");
        l.purchase(0, 0, 500);
        l.join(2, 0);
        for (int day = 0; day < 7; day += 2) {
            l.purchase(1, 0, 100);
            l.purchase(2, 0, 50);
            l.advance(2);
        }
        l.redeem(1, 10 + 10 + 10 + 4);
        int[] due = {0, 0, 4, 0, 10, 0, 10, 0, 10, 0};
        for (int part = 0; part <= 9; part++) {
            CHECKS.equal("of an account with part " + part, l.redeemedWith(part), due[part]);
        }
        l.redeem(2, 5 + 5 + 1);
        int[] more = {0, 0, 4, 0, 11, 0, 15, 0, 15, 0};
        for (int part = 0; part <= 9; part++) {
            CHECKS.equal("of a pool too with part " + part, l.redeemedWith(part), more[part]);
        }
    }

    /** The part is that of the cohort, wherever it has come to. */
    private static void partOfWhatWasGiven() {
        PointsLedger l = shop(";life 10;house h 100");
        l.join(0, 0);
        l.purchase(0, 0, 100);
        l.advance(4);
        l.purchase(1, 0, 30);
        l.leave(0);
        l.transfer(0, 1, 10);
        l.redeem(1, 12);
        CHECKS.equal("from day 0", l.redeemedWith(4), 10);
        CHECKS.equal("from day 4", l.redeemedWith(0), 2);
    }

    /** "and 0 if E + R(k) is 0" */
    private static void estimateWithoutExperience() {
        PointsLedger l = shop(";life 1;house h 50");
        l.join(0, 0);
        l.purchase(0, 0, 100);
        CHECKS.equal("nothing yet", l.breakage(0), 0);
        CHECKS.equal("nothing yet in the pool", l.poolBreakage(0), 0);
        CHECKS.equal("nothing yet at all", l.totalBreakage(), 0);
        l.redeem(0, 1);
        CHECKS.equal("nothing expired", l.breakage(0), 0);
        l.advance(1);
        l.purchase(1, 0, 10);
        CHECKS.equal("1 * 9 / (9 + 1)", l.breakage(1), 0);
        CHECKS.equal("an empty account", l.breakage(2), 0);
        CHECKS.equal("an empty pool", l.poolBreakage(0), 0);
        PointsLedger all = shop(";life 1");
        all.purchase(0, 0, 10);
        all.advance(1);
        all.purchase(0, 0, 70);
        CHECKS.equal("one point expired, none redeemed", all.breakage(0), 7);
    }

    /** "the number of points that were redeemed with a part of at least k" */
    private static void estimateOfPartsThatAreAtLeast() {
        PointsLedger l = shop(";life 10");
        l.purchase(0, 0, 1000);
        l.advance(5);
        l.redeem(0, 10);
        l.advance(5);
        l.purchase(1, 0, 900);
        CHECKS.equal("expired", l.total(2), 90);
        CHECKS.equal("part 0: 90 * 90 / 100", l.breakage(1), 81);
        l.advance(4);
        CHECKS.equal("part 4: 90 * 90 / 100", l.breakage(1), 81);
        l.advance(1);
        CHECKS.equal("part 5: 90 * 90 / 100", l.breakage(1), 81);
        l.advance(1);
        CHECKS.equal("part 6: 90 * 90 / 90", l.breakage(1), 90);
        l.redeem(1, 30);
        CHECKS.equal("part 6: 60 * 90 / 120", l.breakage(1), 45);
        l.advance(1);
        CHECKS.equal("part 7: 60 * 90 / 90", l.breakage(1), 60);
        l.purchase(2, 0, 1300);
        CHECKS.equal("part 0 of others: 130 * 90 / 130", l.breakage(2), 90);
        l.advance(2);
        l.redeem(1, 10);
        CHECKS.equal("part 9: 50 * 90 / 100", l.breakage(1), 45);
    }

    /** "The breakage of a list of cohorts is the sum of the estimates." */
    private static void breakageIsASum() {
        PointsLedger l = shop(";life 10;house h 50;house k 50");
        l.purchase(0, 0, 1000);
        l.redeem(0, 50);
        l.advance(10);
        l.join(0, 0);
        l.join(1, 1);
        l.purchase(0, 0, 60);
        l.purchase(1, 0, 60);
        CHECKS.equal("3 * 50 / 100", l.breakage(0), 1);
        CHECKS.equal("3 * 50 / 100, bob", l.breakage(1), 1);
        CHECKS.equal("3 * 50 / 100, the first pool", l.poolBreakage(0), 1);
        CHECKS.equal("3 * 50 / 100, the second pool", l.poolBreakage(1), 1);
        CHECKS.equal("the sum of four", l.totalBreakage(), 4);
        l.advance(1);
        l.purchase(0, 0, 60);
        CHECKS.equal("another cohort, part 0", l.breakage(0), 3 + 1);
        CHECKS.equal("another one in the pool", l.poolBreakage(0), 3 + 1);
        CHECKS.equal("the other pool, part 1: 3 * 50 / 50", l.poolBreakage(1), 3);
        CHECKS.equal("the sum of six", l.totalBreakage(), 4 + 4 + 3 + 3);
    }

    /** The products need more than 32 bits. */
    private static void breakageGreatest() {
        PointsLedger l = Checks.loaded("category c 50 0;tier t 0 300;member m;life 1;promo c 0 9 500;"
                + "promo c 0 9 500;promo c 0 9 500;promo c 0 9 500;promo c 0 9 500;"
                + "promo c 0 9 500;promo c 0 9 500;promo c 0 9 500");
        for (int i = 0; i < 230; i++) {
            l.purchase(0, 0, 100000);
        }
        CHECKS.equal("so many expire", l.advance(1), 506000000);
        for (int i = 0; i < 230; i++) {
            l.purchase(0, 0, 100000);
        }
        CHECKS.equal("as many as there are", l.breakage(0), 506000000);
        l.redeem(0, 253000000);
        CHECKS.equal("253 * 506 / 759", l.breakage(0), 168666666);
        CHECKS.equal("all of them", l.totalBreakage(), 168666666);
    }

    /** Promise 42: "days: 0 to 2000", "not greater than the present day + days" */
    private static void expiringWithinDays() {
        PointsLedger l = shop(";life 1000;house h 50");
        l.purchase(0, 0, 100);
        l.advance(1);
        l.purchase(0, 0, 200);
        int[][] due = {{0, 0}, {998, 0}, {999, 10}, {1000, 30}, {1999, 30}, {2000, 30}};
        for (int[] row : due) {
            CHECKS.equal("within " + row[0], l.expiringWithin(0, row[0]), row[1]);
        }
        l.join(0, 0);
        l.purchase(0, 0, 400);
        CHECKS.equal("of the account", l.expiringWithin(0, 2000), 50);
        CHECKS.equal("of another", l.expiringWithin(1, 2000), 0);
        for (int days : new int[] {-1, 2001}) {
            CHECKS.refused("expiring within " + days, ARGUMENT, DayBoundsTest::rich,
                    x -> x.expiringWithin(0, days));
        }
        PointsLedger next = shop(";life 1");
        next.purchase(0, 0, 100);
        CHECKS.equal("within the present day", next.expiringWithin(0, 0), 0);
        CHECKS.equal("within the next day", next.expiringWithin(0, 1), 10);
    }

    /** Promise 43: "the smallest day of expiry in the account and in the pool" */
    private static void nextExpiryOfBoth() {
        PointsLedger l = shop(";life 50;house h 100");
        CHECKS.thrown("no points", ELEMENT, l, x -> x.nextExpiry(0));
        l.purchase(0, 0, 100);
        CHECKS.equal("the account alone", l.nextExpiry(0), 50);
        l.join(0, 0);
        l.advance(1);
        l.purchase(0, 0, 100);
        CHECKS.equal("the account is earlier", l.nextExpiry(0), 50);
        l.join(1, 0);
        CHECKS.equal("the pool alone", l.nextExpiry(1), 51);
        l.purchase(2, 0, 100);
        l.advance(1);
        l.purchase(2, 0, 100);
        l.transfer(2, 1, 20);
        CHECKS.equal("both on one day", l.nextExpiry(1), 51);
        l.redeem(1, 10);
        CHECKS.equal("the pool is earlier", l.nextExpiry(1), 51);
        l.redeem(0, 20);
        CHECKS.equal("the account is what is left", l.nextExpiry(1), 52);
        CHECKS.thrown("nothing is left", ELEMENT, l, x -> x.nextExpiry(0));
        CHECKS.thrown("the pool of others is none", ELEMENT, l, x -> x.nextExpiry(2));
        PointsLedger three = shop(";life 50");
        for (int member = 0; member < 3; member++) {
            three.purchase(member, 0, 100);
            three.advance(1);
        }
        for (int member = 0; member < 3; member++) {
            CHECKS.equal("the account alone of " + member, three.nextExpiry(member), 50 + member);
        }
    }

    /** Promise 44: "part: 0 to 9" */
    private static void redeemedWithParts() {
        PointsLedger l = shop(";life 10");
        l.purchase(0, 0, 1000);
        for (int day = 0; day < 10; day++) {
            CHECKS.equal("none with part " + day, l.redeemedWith(day), 0);
            l.redeem(0, 1 + day % 3);
            if (day < 9) {
                l.advance(1);
            }
        }
        for (int part = 0; part <= 9; part++) {
            CHECKS.equal("with part " + part, l.redeemedWith(part), 1 + part % 3);
        }
        l.redeem(0, 5);
        CHECKS.equal("added to part 9", l.redeemedWith(9), 6);
        for (int part : new int[] {-1, 10}) {
            CHECKS.refused("redeemed with part " + part, ARGUMENT, DayBoundsTest::rich,
                    x -> x.redeemedWith(part));
        }
    }

    /** The first purchase is of 1 point, the second of 2, and so on. */
    private static PointsLedger logged(int entries) {
        PointsLedger l = shop("");
        for (int i = 1; i <= entries; i++) {
            l.purchase(i % 3, 0, 10 * i);
        }
        return l;
    }

    /** "The log keeps the latest 30 entries." */
    private static void logKeepsThirty() {
        CHECKS.equal("no entry", logged(0).logSize(), 0);
        CHECKS.equal("one entry", logged(1).logSize(), 1);
        for (int entries : new int[] {1, 29, 30, 31, 32, 59, 60, 61, 90, 91}) {
            PointsLedger l = logged(entries);
            int size = Math.min(entries, 30);
            CHECKS.equal("entries of " + entries, l.logSize(), size);
            CHECKS.logged("the latest of " + entries, l, 0, 0, 0, entries % 3, entries);
            int oldest = entries - size + 1;
            CHECKS.logged("the oldest of " + entries, l, size - 1, 0, 0, oldest % 3, oldest);
            CHECKS.refused("one more of " + entries, IndexOutOfBoundsException.class,
                    () -> logged(entries), x -> x.log(size, 0));
        }
        PointsLedger l = logged(31);
        for (int index = 0; index < 30; index++) {
            CHECKS.equal("entry " + index + " of 31", l.log(index, 3), 31 - index);
        }
        l.undo();
        CHECKS.equal("the first is back", l.log(29, 3), 1);
        l.undo();
        CHECKS.equal("29 entries", l.logSize(), 29);
        CHECKS.equal("the first of 29", l.log(28, 3), 1);
    }

    /** One day that brings more than 30 entries. */
    private static void logKeepsThirtyOfADay() {
        PointsLedger l = Checks.loaded("category k 10 0;tier low 0 0;tier high 1 0;life 2;window 1;grace 1;"
                + "member a;member b;member c;member d;member e;member f;member g;member h;"
                + "member i;member j;member m;member l;house w 50;house x 50;house y 50;house z 50");
        for (int member = 0; member < 12; member++) {
            l.join(member, member / 3);
            l.purchase(member, 0, 20);
        }
        CHECKS.equal("the whole log of 24 entries", l.logSize(), 24);
        CHECKS.equal("they expire", l.advance(2), 24);
        CHECKS.equal("12 expiries, 4 expiries, 12 tiers, 2 more", l.logSize(), 30);
        CHECKS.logged("the last tier", l, 0, 6, 2, 11, 0);
        CHECKS.logged("the first tier", l, 11, 6, 2, 0, 0);
        CHECKS.logged("the last pool", l, 12, 5, 2, 3, 3);
        CHECKS.logged("the first pool", l, 15, 5, 2, 0, 3);
        CHECKS.logged("the last account", l, 16, 4, 2, 11, 1);
        CHECKS.logged("the first account", l, 27, 4, 2, 0, 1);
        CHECKS.logged("the latest rise", l, 28, 6, 0, 11, 1);
        CHECKS.logged("the latest purchase", l, 29, 0, 0, 11, 2);
    }

    /** "0 purchase .. 6 change of the present tier", with subject and number. */
    private static void logKinds() {
        PointsLedger l = shop(";tier a 0 0;tier b 50 0;life 9;window 9;grace 0;house h 0;house k 50");
        l.advance(2);
        l.join(2, 1);
        l.purchase(2, 0, 490);
        CHECKS.logged("a purchase", l, 0, 0, 2, 2, 49);
        l.redeem(2, 40);
        CHECKS.logged("a redemption", l, 0, 2, 2, 2, 40);
        l.purchase(2, 0, 10);
        CHECKS.logged("a rise", l, 0, 6, 2, 2, 1);
        CHECKS.logged("behind its purchase", l, 1, 0, 2, 2, 1);
        l.refund(0);
        CHECKS.logged("a fall", l, 0, 6, 2, 2, 0);
        CHECKS.logged("behind its refund, with the reclaimed points", l, 1, 1, 2, 2, 10);
        l.purchase(1, 0, 30);
        l.transfer(1, 0, 2);
        CHECKS.logged("a transfer, with the one who gives", l, 0, 3, 2, 1, 2);
        l.purchase(2, 0, 400);
        l.advance(9);
        CHECKS.logged("an expiry in a pool", l, 0, 5, 11, 1, 20);
        CHECKS.logged("what the third account kept of it", l, 1, 4, 11, 1, 1);
        CHECKS.logged("the first account", l, 2, 4, 11, 0, 2);
    }

    /** "There is no entry for an expiry of 0 points." */
    private static void logHasNoExpiryOfNothing() {
        PointsLedger l = shop(";life 2;house h 50");
        l.join(0, 0);
        l.advance(5);
        CHECKS.equal("nothing expired", l.logSize(), 0);
        l.purchase(0, 0, 10);
        l.advance(2);
        CHECKS.equal("one point of one account", l.logSize(), 2);
        CHECKS.logged("one point of one account", l, 0, 4, 7, 0, 1);
        l.setShare(0, 100);
        l.purchase(0, 0, 10);
        l.advance(2);
        CHECKS.equal("one point of one pool", l.logSize(), 4);
        CHECKS.logged("one point of one pool", l, 0, 5, 9, 0, 1);
        l.purchase(0, 0, 9);
        l.advance(2);
        CHECKS.equal("a purchase of no points, and no expiry", l.logSize(), 5);
        CHECKS.logged("a purchase of no points", l, 0, 0, 9, 0, 0);
    }

    /** No kind is for these. */
    private static void logIsSilent() {
        PointsLedger l = shop(";house h 50");
        l.join(0, 0);
        l.purchase(0, 0, 100);
        l.leave(0);
        l.setShare(0, 9);
        l.advance(1);
        l.save();
        l.wouldEarn(0, 0, 100);
        l.tierAfter(0, 2000);
        Checks.outcome(l, x -> x.redeem(0, 11));
        CHECKS.equal("only the purchase", l.logSize(), 1);
        CHECKS.equal("which is the latest entry", l.log(0, 0), 0);
    }
}
