import java.util.NoSuchElementException;

/**
 * Each sentence of the parts 3 and 4 of "Terms" about purchases and refunds, and of the
 * promises 7, 8 and 37 to 41, that names a boundary case.
 */
public final class PurchaseBoundsTest {
    private static final Checks CHECKS = new Checks();
    private static final Class<?> STATE = IllegalStateException.class;
    private static final Class<?> ELEMENT = NoSuchElementException.class;

    public static void main(String[] args) {
        baseUpToTheCap();
        bonusOfThePresentTier();
        dayOfExpiry();
        poolOfOneself();
        leastAndGreatestCents();
        numbersAndFortyKept();
        numbersBelowZero();
        keptOnesAfterUndo();
        refundFromTheDayInTheAccount();
        refundFromTheDayInThePool();
        refundFromTheAccount();
        refundFromThePool();
        refundOrderOfAllFour();
        refundLeavesOthers();
        refundFromThePresentHousehold();
        refundOfTheSecondMember();
        refundWithoutHousehold();
        refundOfExpiredPoints();
        refundOfNoPoints();
        refundOnce();
        refundAddsToTheDebt();
        wouldEarnLeastAndGreatest();
        bestCategoryAmongSeveral();
        earningOfTheSecondMember();
        leastCentsFromOneOn();
        leastCentsUpTo100000();
        leastCentsOfACap();
        purchaseCountCountsAll();
        purchaseParts();
        CHECKS.finish("PurchaseBoundsTest");
    }

    private static PointsLedger shop(String more) {
        return Checks.loaded("category food 10 0;category cent 1 0;member ann;member bob;"
                + "member cy" + more);
    }

    /** "Its base is cents * rate / 100, but not more than the cap of the category if it has one." */
    private static void baseUpToTheCap() {
        int[][] due = {{490, 49}, {499, 49}, {500, 50}, {509, 50}, {510, 50}, {100000, 50}};
        for (int[] row : due) {
            PointsLedger l = Checks.loaded("category c 10 50;member m;tier t 0 100");
            CHECKS.equal("points with a cap, " + row[0], l.purchase(0, 0, row[0]), 2 * row[1]);
            CHECKS.equal("base with a cap, " + row[0], l.purchasePart(0, 3), row[1]);
        }
        PointsLedger l = Checks.loaded("category c 10 0;category d 10 1;member m");
        CHECKS.equal("no cap", l.purchase(0, 0, 100000), 10000);
        CHECKS.equal("a cap of 1", l.purchase(0, 1, 100000), 1);
        CHECKS.equal("below a cap of 1", l.purchase(0, 1, 9), 0);
    }

    /** "where bonus is that of the present tier of the member": before the purchase. */
    private static void bonusOfThePresentTier() {
        PointsLedger l = shop(";tier a 0 10;tier b 100 20;tier c 200 300;window 2;grace 3");
        CHECKS.equal("one below the threshold", l.purchase(0, 0, 990), 108);
        CHECKS.equal("the purchase that reaches it", l.purchase(0, 0, 10), 1);
        CHECKS.equal("the one behind it", l.purchase(0, 0, 100), 12);
        CHECKS.equal("two tiers at once", l.purchase(1, 0, 2000), 220);
        CHECKS.equal("then that of the highest", l.purchase(1, 0, 100), 40);
        CHECKS.equal("that of the other stays", l.wouldEarn(0, 0, 100), 12);
        l.advance(2);
        CHECKS.equal("below: earned is less", l.earnedTier(1), 0);
        CHECKS.equal("below: the bonus is that of the present tier", l.purchase(1, 0, 100), 40);
        l.advance(3);
        CHECKS.equal("fallen: that of the lowest", l.purchase(1, 0, 100), 11);
    }

    /** "The day of expiry is the present day + life." */
    private static void dayOfExpiry() {
        PointsLedger l = shop(";life 7;house h 50");
        l.join(0, 0);
        l.purchase(0, 0, 100);
        CHECKS.equal("from day 0, account", l.cohort(0, 0, 1), 7);
        CHECKS.equal("from day 0, pool", l.poolCohort(0, 0, 1), 7);
        l.advance(6);
        l.purchase(0, 0, 100);
        CHECKS.equal("from day 6, account", l.cohort(0, 1, 1), 13);
        CHECKS.equal("from day 6, pool", l.poolCohort(0, 1, 1), 13);
        PointsLedger last = shop(";life 1000");
        for (int i = 0; i < 25; i++) {
            last.advance(i < 24 ? 400 : 399);
        }
        last.purchase(0, 0, 100);
        CHECKS.equal("from day 9999", last.cohort(0, 0, 1), 10999);
    }

    /** "points * share / 100 of the points are put into its pool (with the member as ..)" */
    private static void poolOfOneself() {
        PointsLedger l = shop(";house h 100;house k 25");
        l.join(0, 0);
        l.join(1, 1);
        l.purchase(0, 0, 80);
        l.purchase(1, 0, 80);
        l.purchase(2, 0, 80);
        CHECKS.pool("share 100", l, 0, 8, 365, 0);
        CHECKS.account("share 100", l, 0);
        CHECKS.pool("share 25", l, 1, 2, 365, 1);
        CHECKS.account("share 25", l, 1, 6, 365);
        CHECKS.account("no household", l, 2, 8, 365);
        l.leave(0);
        l.purchase(0, 0, 80);
        CHECKS.pool("no household any more", l, 0);
        CHECKS.account("no household any more", l, 0, 16, 365);
        l.setShare(1, 0);
        l.purchase(1, 0, 80);
        CHECKS.pool("share 0", l, 1, 2, 365, 1);
        CHECKS.account("share 0", l, 1, 14, 365);
    }

    /** Promise 7: "cents: 1 to 100000" */
    private static void leastAndGreatestCents() {
        PointsLedger l = Checks.loaded("category c 50 0;member m;tier t 0 300;"
                + "promo c 0 0 500;promo c 0 0 500;promo c 0 0 500;promo c 0 0 500;"
                + "promo c 0 0 500;promo c 0 0 500;promo c 0 0 500;promo c 0 0 500");
        CHECKS.equal("the least amount", l.purchase(0, 0, 1), 0);
        CHECKS.equal("one more", l.purchase(0, 0, 2), 44);
        CHECKS.equal("the greatest amount", l.purchase(0, 0, 100000), 2200000);
        CHECKS.equal("one less", l.purchase(0, 0, 99999), 2199956);
        CHECKS.equal("the cents of the least", l.purchasePart(0, 2), 1);
        CHECKS.equal("the cents of the greatest", l.purchasePart(2, 2), 100000);
        CHECKS.equal("the log has all points", l.log(1, 3), 2200000);
        PointsLedger crowd = Checks.loaded("member a;member b;member c;member d;member e;member f;"
                + "member g;member h;member i;member j;member k;member l;category s 0 0;"
                + "category t 0 0;category u 0 0;category v 0 0;category w 0 0;category x 0 0;"
                + "category y 0 0;category z 50 0");
        CHECKS.equal("the last member and category", crowd.purchase(11, 7, 100), 50);
        CHECKS.equal("the last member has them", crowd.balance(11), 50);
    }

    /** So many purchases of ten points each by member 0. */
    private static PointsLedger bought(int count) {
        PointsLedger l = shop("");
        for (int i = 0; i < count; i++) {
            l.purchase(0, 0, 100);
        }
        return l;
    }

    /** "The purchases are numbered from 0. The latest 40 are kept." */
    private static void numbersAndFortyKept() {
        CHECKS.equal("the first number", bought(1).purchasePart(0, 2), 100);
        CHECKS.refused("number 1 of 1", ELEMENT, () -> bought(1), l -> l.purchasePart(1, 2));
        CHECKS.equal("number 0 of 40", bought(40).purchasePart(0, 2), 100);
        CHECKS.equal("refund number 0 of 40", bought(40).refund(0), 0);
        CHECKS.equal("number 39 of 40", bought(40).purchasePart(39, 2), 100);
        CHECKS.refused("number 0 of 41", ELEMENT, () -> bought(41), l -> l.purchasePart(0, 2));
        CHECKS.refused("refund number 0 of 41", ELEMENT, () -> bought(41), l -> l.refund(0));
        CHECKS.equal("number 1 of 41", bought(41).purchasePart(1, 2), 100);
        CHECKS.equal("refund number 1 of 41", bought(41).refund(1), 0);
        CHECKS.equal("number 40 of 41", bought(41).purchasePart(40, 2), 100);
        CHECKS.refused("number 59 of 100", ELEMENT, () -> bought(100), l -> l.purchasePart(59, 2));
        CHECKS.equal("number 60 of 100", bought(100).purchasePart(60, 2), 100);
        CHECKS.equal("number 99 of 100", bought(100).purchasePart(99, 2), 100);
        CHECKS.equal("number 460 of 500", bought(500).purchasePart(460, 2), 100);
        CHECKS.equal("number 499 of 500", bought(500).purchasePart(499, 4), 10);
        CHECKS.thrown("number 459 of 500", ELEMENT, bought(500), l -> l.refund(459));
        CHECKS.equal("those that are not kept qualify", bought(100).qualifying(0), 1000);
        CHECKS.equal("and have their points", bought(100).balance(0), 1000);
    }

    /** No purchase has a negative number, however few there are. */
    private static void numbersBelowZero() {
        for (int count : new int[] {0, 1, 2, 39, 40, 41}) {
            for (int purchase : new int[] {-1, -2, count}) {
                CHECKS.refused("refund " + purchase + " of " + count, ELEMENT, () -> bought(count),
                        l -> l.refund(purchase));
                CHECKS.refused("part of " + purchase + " of " + count, ELEMENT, () -> bought(count),
                        l -> l.purchasePart(purchase, 0));
            }
        }
    }

    private static void keptOnesAfterUndo() {
        PointsLedger l = bought(41);
        l.undo();
        CHECKS.equal("number 0 is kept again", l.purchasePart(0, 2), 100);
        CHECKS.thrown("number 40 is none", ELEMENT, l, x -> x.purchasePart(40, 2));
        CHECKS.equal("number 0 can be refunded again", l.refund(0), 0);
        CHECKS.thrown("once", STATE, l, x -> x.refund(0));
        l.purchase(1, 1, 300);
        CHECKS.equal("number 40 is another one", l.purchasePart(40, 0), 1);
        CHECKS.thrown("number 0 falls off again", ELEMENT, l, x -> x.refund(0));
    }

    /**
     * Ann lives in h with a share of 50; she bought 20 points on day 0 (purchase 0), 40 on
     * day 1 (purchase 1), and bob, who lives there too, 60 on day 1 (purchase 2).
     */
    private static PointsLedger shared() {
        PointsLedger l = shop(";house h 50;life 50");
        l.join(0, 0);
        l.join(1, 0);
        l.purchase(0, 0, 200);
        l.advance(1);
        l.purchase(0, 0, 400);
        l.purchase(1, 0, 600);
        return l;
    }

    private static void refunded(String what, PointsLedger l, int purchase, int debt, int reclaimed) {
        int before = l.total(3);
        int owed = l.debt(l.purchasePart(purchase, 0));
        CHECKS.equal(what + ": the increase of the debt", l.refund(purchase), debt);
        CHECKS.equal(what + ": the debt", l.debt(l.purchasePart(purchase, 0)), owed + debt);
        CHECKS.equal(what + ": reclaimed points", l.total(3) - before, reclaimed);
        CHECKS.equal(what + ": in the log", l.log(0, 3), reclaimed);
    }

    /** "from the cohort of the member's account with the day of expiry of the purchase" */
    private static void refundFromTheDayInTheAccount() {
        PointsLedger l = shared();
        l.transfer(1, 0, 20);
        refunded("all from the day in the account", l, 1, 0, 40);
        CHECKS.account("just enough there", l, 0, 10, 50);
        CHECKS.pool("just enough in the account", l, 0, 10, 50, 0, 20, 51, 0, 30, 51, 1);
        l = shared();
        l.transfer(1, 0, 19);
        refunded("one too few there", l, 1, 0, 40);
        CHECKS.account("one too few there", l, 0, 10, 50);
        CHECKS.pool("one from the pool", l, 0, 10, 50, 0, 19, 51, 0, 30, 51, 1);
        l = shared();
        l.transfer(1, 0, 21);
        refunded("one more there", l, 1, 0, 40);
        CHECKS.account("one is left there", l, 0, 10, 50, 1, 51);
    }

    /** "from the cohort with this day of expiry and this contributor in the pool" */
    private static void refundFromTheDayInThePool() {
        PointsLedger l = shared();
        refunded("account and pool of the day", l, 1, 0, 40);
        CHECKS.account("both of the day", l, 0, 10, 50);
        CHECKS.pool("both of the day", l, 0, 10, 50, 0, 30, 51, 1);
        l = shared();
        l.redeem(0, 10);
        refunded("the first day", l, 0, 0, 20);
        CHECKS.account("the first day, from another one", l, 0, 10, 51);
        CHECKS.pool("the first day in the pool", l, 0, 20, 51, 0, 30, 51, 1);
    }

    /** "from the member's account" */
    private static void refundFromTheAccount() {
        PointsLedger l = shared();
        l.redeem(1, 30 + 10 + 20);
        CHECKS.pool("nothing of ann's in the pool", l, 0, 30, 51, 1);
        refunded("20 of the day, 10 of the rest of the account", l, 1, 10, 30);
        CHECKS.account("nothing is left", l, 0);
    }

    /** "from all cohorts with this contributor in that pool", in their order. */
    private static void refundFromThePool() {
        PointsLedger l = shared();
        l.transfer(0, 2, 30);
        refunded("20 of the day, 10 of the other", l, 1, 10, 30);
        CHECKS.pool("only bob's are left", l, 0, 30, 51, 1);
        l = shared();
        l.transfer(0, 2, 11);
        l.redeem(1, 30 + 10 + 15);
        l.advance(1);
        l.purchase(0, 0, 60);
        CHECKS.pool("before", l, 0, 5, 51, 0, 30, 51, 1, 3, 52, 0);
        CHECKS.account("before", l, 0, 19, 51, 3, 52);
        refunded("20: nothing of its day, 20 of the account", l, 0, 0, 20);
        CHECKS.account("two are left", l, 0, 2, 52);
        CHECKS.pool("the pool is not needed", l, 0, 5, 51, 0, 30, 51, 1, 3, 52, 0);
        refunded("the last day needs 6", l, 3, 0, 6);
        CHECKS.account("none is left", l, 0);
        CHECKS.pool("2, 3 and 1 of the first", l, 0, 4, 51, 0, 30, 51, 1);
        refunded("4 are all", l, 1, 36, 4);
        CHECKS.pool("none is left", l, 0, 30, 51, 1);
    }

    /** Day in the account, day in the pool, account, pool: each is needed, or just not. */
    private static void refundOrderOfAllFour() {
        PointsLedger l = fourPlaces(0);
        CHECKS.account("before", l, 0, 8, 50, 50, 51, 5, 52);
        CHECKS.pool("before", l, 0, 8, 50, 0, 50, 51, 0, 5, 52, 0);
        l.refund(1);
        CHECKS.account("nothing of other days", l, 0, 8, 50, 5, 52);
        CHECKS.pool("nothing of other days", l, 0, 8, 50, 0, 5, 52, 0);
        l = fourPlaces(8);
        refunded("just the day", l, 1, 0, 100);
        CHECKS.account("none of the account's others", l, 0, 5, 52);
        l = fourPlaces(9);
        refunded("one of the account's others", l, 1, 0, 100);
        CHECKS.account("one of the account's others", l, 0, 4, 52);
        CHECKS.pool("none of the pool's others", l, 0, 8, 50, 0, 5, 52, 0);
        l = fourPlaces(8 + 5);
        refunded("five of the account's others", l, 1, 0, 100);
        CHECKS.account("five of the account's others", l, 0);
        CHECKS.pool("still none of the pool's others", l, 0, 8, 50, 0, 5, 52, 0);
        l = fourPlaces(8 + 6);
        refunded("one of the pool's others", l, 1, 0, 100);
        CHECKS.account("all of the account's others", l, 0);
        CHECKS.pool("one of the pool's others", l, 0, 7, 50, 0, 5, 52, 0);
        l = fourPlaces(8 + 5 + 9);
        refunded("nine of the pool's others", l, 1, 0, 100);
        CHECKS.pool("all of the first of them", l, 0, 4, 52, 0);
        l = fourPlaces(8 + 5 + 13);
        refunded("all of the pool's others", l, 1, 0, 100);
        CHECKS.equal("nothing is left", l.available(0), 0);
        l = fourPlaces(8 + 5 + 14);
        refunded("one more than there are", l, 1, 1, 99);
        CHECKS.equal("nothing is left, one is owed", l.available(0), 0);
    }

    /** Ann bought 16, 100 and 10 points on three days, and has given away so many. */
    private static PointsLedger fourPlaces(int given) {
        PointsLedger l = shop(";house h 50;life 50");
        l.join(0, 0);
        for (int points : new int[] {16, 100, 10}) {
            l.purchase(0, 0, 10 * points);
            l.advance(1);
        }
        if (given > 0) {
            l.transfer(0, 1, given);
        }
        return l;
    }

    /** Neither the accounts of others nor what others contributed is touched. */
    private static void refundLeavesOthers() {
        PointsLedger l = shared();
        l.transfer(0, 2, 30);
        refunded("bob's are of the same day", l, 1, 10, 30);
        CHECKS.account("bob's account", l, 1, 30, 51);
        CHECKS.account("cy's account", l, 2, 10, 50, 20, 51);
        CHECKS.pool("bob's points", l, 0, 30, 51, 1);
        CHECKS.equal("bob's debt", l.debt(1), 0);
    }

    /** "the pool of the member's present household" */
    private static void refundFromThePresentHousehold() {
        PointsLedger l = shop(";house h 50;house k 100;life 50");
        l.join(0, 0);
        l.purchase(0, 0, 400);
        l.leave(0);
        l.redeem(0, 40);
        l.join(0, 1);
        l.purchase(0, 0, 300);
        refunded("from the pool of k", l, 0, 10, 30);
        CHECKS.pool("nothing left in k", l, 1);
    }

    /** "this contributor": bob's points stand behind ann's. */
    private static void refundOfTheSecondMember() {
        PointsLedger l = shared();
        refunded("bob's of the day", l, 2, 0, 60);
        CHECKS.account("bob's account", l, 1);
        CHECKS.pool("ann's are left", l, 0, 10, 50, 0, 20, 51, 0);
        l = shared();
        l.advance(1);
        l.purchase(1, 0, 100);
        l.transfer(1, 2, 30);
        CHECKS.pool("bob's of two days", l, 0, 10, 50, 0, 20, 51, 0, 30, 51, 1, 5, 52, 1);
        refunded("bob's: 30 of the day's pool, 5 of the account, 5 of the pool", l, 2, 20, 40);
        CHECKS.pool("ann's are left again", l, 0, 10, 50, 0, 20, 51, 0);
        CHECKS.account("ann's account stays", l, 0, 10, 50, 20, 51);
        CHECKS.equal("ann has no debt", l.debt(0), 0);
    }

    private static void refundWithoutHousehold() {
        PointsLedger l = shop(";house h 50;life 50");
        l.join(1, 0);
        l.purchase(1, 0, 400);
        l.purchase(0, 0, 400);
        l.redeem(0, 1);
        refunded("without a household", l, 1, 1, 39);
        CHECKS.pool("the pool of another", l, 0, 20, 50, 1);
    }

    private static void refundOfExpiredPoints() {
        PointsLedger l = shop(";life 3");
        l.purchase(0, 0, 100);
        l.advance(3);
        refunded("expired, and nothing else", l, 0, 10, 0);
        l = shop(";life 3");
        l.purchase(0, 0, 100);
        l.advance(2);
        l.purchase(0, 0, 60);
        l.advance(1);
        refunded("expired, and something else", l, 0, 4, 6);
        CHECKS.equal("expired points stay so", l.total(2), 10);
    }

    private static void refundOfNoPoints() {
        PointsLedger l = shop("");
        l.purchase(0, 0, 9);
        l.purchase(0, 0, 100);
        refunded("no points", l, 0, 0, 0);
        CHECKS.equal("they are logged", l.logSize(), 3);
        CHECKS.logged("no points", l, 0, 1, 0, 0, 0);
        CHECKS.equal("it has been refunded", l.purchasePart(0, 6), 1);
        CHECKS.thrown("once", STATE, l, x -> x.refund(0));
        CHECKS.equal("the points of the other stay", l.balance(0), 10);
    }

    /** "if it has been refunded" */
    private static void refundOnce() {
        CHECKS.refused("refund again", STATE, PurchaseBoundsTest::refundedOnce, l -> l.refund(1));
        PointsLedger l = refundedOnce();
        CHECKS.equal("the one before", l.refund(0), 0);
        CHECKS.equal("the one behind", l.refund(2), 0);
        CHECKS.thrown("the one before again", STATE, l, x -> x.refund(0));
    }

    private static PointsLedger refundedOnce() {
        PointsLedger l = bought(3);
        l.refund(1);
        return l;
    }

    private static void refundAddsToTheDebt() {
        PointsLedger l = bought(3);
        l.redeem(0, 30);
        refunded("a first debt", l, 0, 10, 0);
        refunded("a second debt", l, 1, 10, 0);
        CHECKS.equal("both", l.debt(0), 20);
        CHECKS.equal("all debts", l.total(6), 20);
    }

    /** Promise 37: "cents: 1 to 100000" */
    private static void wouldEarnLeastAndGreatest() {
        PointsLedger l = Checks.loaded("category c 50 0;category d 1 0;member m;member n;"
                + "tier t 0 300;promo c 0 0 500");
        CHECKS.equal("would earn for 1", l.wouldEarn(0, 0, 1), 0);
        CHECKS.equal("would earn for 2", l.wouldEarn(0, 0, 2), 9);
        CHECKS.equal("would earn for 100000", l.wouldEarn(1, 0, 100000), 450000);
        CHECKS.equal("would earn for 99999", l.wouldEarn(1, 0, 99999), 449991);
        CHECKS.equal("in the last category", l.wouldEarn(1, 1, 100), 4);
    }

    /** Promise 38: "the lowest number among several" */
    private static void bestCategoryAmongSeveral() {
        PointsLedger l = Checks.loaded("category a 1 0;category b 2 0;category c 2 0;member m;member n");
        CHECKS.equal("all are worth nothing", l.bestCategory(0, 1), 0);
        CHECKS.equal("two are worth as much", l.bestCategory(1, 100), 1);
        CHECKS.equal("b is worth one more", l.bestCategory(1, 50), 1);
        CHECKS.equal("a is worth nothing yet", l.bestCategory(1, 49), 0);
        CHECKS.equal("best of the greatest amount", l.bestCategory(0, 100000), 1);
        CHECKS.equal("best of one", Checks.loaded("category a 0 0;member m").bestCategory(0, 5), 0);
        PointsLedger last = Checks.loaded("category a 1 0;category b 1 0;category c 1 0;category d 1 0;"
                + "category e 1 0;category f 1 0;category g 1 0;category h 2 0;member m");
        CHECKS.equal("the last is best", last.bestCategory(0, 50), 7);
        CHECKS.equal("the last is as good", last.bestCategory(0, 49), 0);
    }

    /** "a member": the bonus is that of the member's tier, and may decide. */
    private static void earningOfTheSecondMember() {
        PointsLedger l = Checks.loaded("tier a 0 0;tier b 100 300;category c 10 0;category d 15 0;"
                + "promo c 0 9 100;member ann;member bob");
        l.purchase(1, 0, 1000);
        CHECKS.equal("ann's points", l.wouldEarn(0, 0, 100), 20);
        CHECKS.equal("bob's points", l.wouldEarn(1, 0, 100), 50);
        CHECKS.equal("ann's other points", l.wouldEarn(0, 1, 100), 15);
        CHECKS.equal("bob's other points", l.wouldEarn(1, 1, 100), 60);
        CHECKS.equal("ann's best", l.bestCategory(0, 100), 0);
        CHECKS.equal("bob's best", l.bestCategory(1, 100), 1);
        CHECKS.equal("ann's least", l.leastCents(0, 0, 10), 50);
        CHECKS.equal("bob's least", l.leastCents(1, 0, 10), 20);
        CHECKS.equal("ann's most", l.leastCents(0, 0, 20000), 100000);
        CHECKS.thrown("ann's one more", ELEMENT, l, x -> x.leastCents(0, 0, 20001));
        CHECKS.equal("bob's most", l.leastCents(1, 0, 50000), 100000);
        CHECKS.thrown("bob's one more", ELEMENT, l, x -> x.leastCents(1, 0, 50001));
    }

    private static void least(PointsLedger l, int category, int points, int due) {
        CHECKS.equal("least cents for " + points, l.leastCents(0, category, points), due);
        CHECKS.equal("are enough for " + points, l.wouldEarn(0, category, due) >= points ? 1 : 0, 1);
        if (due > 1) {
            CHECKS.equal("less are too few for " + points,
                    l.wouldEarn(0, category, due - 1) < points ? 1 : 0, 1);
        }
    }

    /** Promise 39: "points: 1 or more", "the smallest amount": 1 cent is the smallest. */
    private static void leastCentsFromOneOn() {
        PointsLedger l = Checks.loaded("category c 50 0;category d 1 0;member m");
        least(l, 0, 1, 2);
        least(l, 0, 2, 4);
        least(l, 1, 1, 100);
        least(l, 1, 2, 200);
        PointsLedger rich = Checks.loaded("category c 50 0;member m;tier t 0 100");
        least(rich, 0, 1, 2);
        least(rich, 0, 2, 2);
        least(rich, 0, 3, 4);
        // No rate gives a point for one cent: 50 percent of a cent is none.
        CHECKS.equal("one cent is worth nothing", rich.wouldEarn(0, 0, 1), 0);
    }

    /** "Returns 1 to 100000.", "if there is no such amount up to 100000" */
    private static void leastCentsUpTo100000() {
        PointsLedger l = Checks.loaded("category c 50 0;category d 1 0;category e 0 0;member m");
        least(l, 0, 50000, 100000);
        least(l, 0, 49999, 99998);
        least(l, 1, 1000, 100000);
        least(l, 1, 999, 99900);
        CHECKS.refused("more than 50000", ELEMENT, () -> Checks.loaded("category c 50 0;member m"),
                x -> x.leastCents(0, 0, 50001));
        CHECKS.thrown("more than 1000", ELEMENT, l, x -> x.leastCents(0, 1, 1001));
        CHECKS.thrown("one point of none", ELEMENT, l, x -> x.leastCents(0, 2, 1));
    }

    private static void leastCentsOfACap() {
        PointsLedger l = Checks.loaded("category c 10 50;member m;tier t 0 10");
        least(l, 0, 55, 500);
        least(l, 0, 54, 500);
        least(l, 0, 53, 490);
        CHECKS.thrown("more than the cap", ELEMENT, l, x -> x.leastCents(0, 0, 56));
    }

    /** Promise 40: "the number of all purchases since the setup" */
    private static void purchaseCountCountsAll() {
        CHECKS.equal("none", shop("").purchaseCount(), 0);
        CHECKS.equal("one", bought(1).purchaseCount(), 1);
        CHECKS.equal("more than are kept", bought(41).purchaseCount(), 41);
        PointsLedger l = bought(3);
        l.refund(1);
        CHECKS.equal("refunded ones too", l.purchaseCount(), 3);
        l.purchase(0, 0, 1);
        CHECKS.equal("those without points too", l.purchaseCount(), 4);
        Checks.outcome(l, x -> x.purchase(0, 0, 0));
        CHECKS.equal("no refused ones", l.purchaseCount(), 4);
        Checks.type(l, "member m");
        l.load();
        CHECKS.equal("none since the setup", l.purchaseCount(), 0);
    }

    /** Promise 41: "0 the member .. 6 whether it has been refunded (1 or 0)" */
    private static void purchaseParts() {
        PointsLedger l = Checks.loaded("category a 0 0;category b 10 15;member m;member n;tier t 0 100");
        l.advance(9);
        l.purchase(1, 1, 199);
        int[] due = {1, 1, 199, 15, 30, 9, 0};
        for (int what = 0; what <= 6; what++) {
            CHECKS.equal("part " + what, l.purchasePart(0, what), due[what]);
        }
        l.advance(1);
        l.refund(0);
        due[6] = 1;
        for (int what = 0; what <= 6; what++) {
            CHECKS.equal("part " + what + " when refunded", l.purchasePart(0, what), due[what]);
        }
        l.undo();
        CHECKS.equal("not refunded any more", l.purchasePart(0, 6), 0);
    }
}
