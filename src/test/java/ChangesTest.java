import java.util.NoSuchElementException;

/** Promises 7 to 14: the changes. */
public final class ChangesTest {
    private static final Checks CHECKS = new Checks();
    private static final Class<?> INDEX = IndexOutOfBoundsException.class;
    private static final Class<?> ARGUMENT = IllegalArgumentException.class;
    private static final Class<?> STATE = IllegalStateException.class;
    private static final Class<?> ELEMENT = NoSuchElementException.class;

    public static void main(String[] args) {
        promise7Purchase();
        promise7Share();
        promise7Tier();
        promise7Greatest();
        promise7Wrong();
        promise8Refund();
        promise8Order();
        promise8Household();
        promise8Tier();
        promise8Wrong();
        promise9Redeem();
        promise9Wrong();
        promise10Transfer();
        promise10Wrong();
        promise11Join();
        promise12Leave();
        promise13SetShare();
        promise14Advance();
        promise14Tiers();
        promise14Wrong();
        CHECKS.finish("ChangesTest");
    }

    /** ann 0, bob 1, anna 2; home 0, hut 1; food 0, fuel 1. */
    static PointsLedger town() {
        return Checks.loaded("tier base 0 0;tier gold 1000 50;tier plat 5000 100;"
                + "category food 10 0;category fuel 5 500;"
                + "promo food 10 20 100;promo food 15 30 25;promo fuel 12 12 7;"
                + "member ann;member bob;member anna;house home 40;house hut 0;"
                + "life 100;window 30;grace 5");
    }

    private static void logged(PointsLedger l, int index, int kind, int day, int subject, int number) {
        CHECKS.logged("the log", l, index, kind, day, subject, number);
    }

    private static void account(PointsLedger l, int member, int... due) {
        CHECKS.account("the account", l, member, due);
    }

    private static void pool(PointsLedger l, int household, int... due) {
        CHECKS.pool("the pool", l, household, due);
    }

    private static void promise7Purchase() {
        PointsLedger l = town();
        CHECKS.equal("a purchase", l.purchase(0, 0, 1239), 123);
        account(l, 0, 123, 100);
        logged(l, 0, 0, 0, 0, 123);
        CHECKS.equal("the least amount", l.purchase(0, 0, 1), 0);
        CHECKS.equal("no points are logged too", l.logSize(), 2);
        account(l, 0, 123, 100);
        CHECKS.equal("the cap", l.purchase(1, 1, 100000), 500);
        CHECKS.equal("just the cap", l.purchase(1, 1, 10000), 500);
        CHECKS.equal("below the cap", l.purchase(1, 1, 9999), 499 * 150 / 100);
        CHECKS.equal("all points", l.total(0), 123 + 1000 + 748);
        l.advance(9);
        CHECKS.equal("the day before the promotion", l.wouldEarn(0, 0, 1000), 100);
        l.advance(1);
        CHECKS.equal("its first day", l.purchase(0, 0, 1000), 200);
        account(l, 0, 123, 100, 200, 110);
        l.advance(5);
        CHECKS.equal("two promotions", l.purchase(0, 0, 1000), 225);
        l.advance(5);
        CHECKS.equal("the last day of one", l.purchase(0, 0, 1000), 225);
        l.advance(1);
        CHECKS.equal("the day after it", l.purchase(0, 0, 1000), 125);
        CHECKS.equal("rounded down", l.purchase(0, 0, 30), 3);
        account(l, 0, 123, 100, 200, 110, 225, 115, 225, 120, 128, 121);
        CHECKS.equal("purchases", l.purchaseCount(), 10);
    }

    private static void promise7Share() {
        PointsLedger l = town();
        l.join(2, 0);
        l.join(0, 0);
        l.join(1, 1);
        CHECKS.equal("with a household", l.purchase(2, 0, 1010), 101);
        account(l, 2, 61, 100);
        pool(l, 0, 40, 100, 2);
        l.purchase(0, 0, 1000);
        l.purchase(2, 0, 100);
        pool(l, 0, 40, 100, 0, 44, 100, 2);
        l.advance(1);
        l.purchase(0, 0, 20);
        pool(l, 0, 40, 100, 0, 44, 100, 2);
        l.purchase(0, 0, 30);
        pool(l, 0, 40, 100, 0, 44, 100, 2, 1, 101, 0);
        l.purchase(1, 0, 1000);
        account(l, 1, 100, 101);
        pool(l, 1);
        l.setShare(1, 100);
        l.purchase(1, 0, 1000);
        account(l, 1, 100, 101);
        pool(l, 1, 100, 101, 1);
        l.redeem(0, 100);
        l.refund(1);
        CHECKS.equal("a debt", l.debt(0), 95);
        CHECKS.equal("a purchase settles it", l.purchase(0, 0, 500), 50);
        CHECKS.equal("with what the pool leaves", l.debt(0), 95 - 30);
        CHECKS.equal("nothing is left for the account", l.balance(0), 0);
        CHECKS.equal("the pool has its share", l.contributed(0), 20);
        CHECKS.equal("settled", l.total(4), 30);
        l.purchase(0, 0, 1200);
        account(l, 0, 72 - 65, 101);
        CHECKS.equal("no debt", l.debt(0), 0);
        CHECKS.equal("all settled", l.total(4), 95);
    }

    private static void promise7Tier() {
        PointsLedger l = town();
        CHECKS.equal("just below gold", l.purchase(0, 0, 9999), 999);
        CHECKS.equal("still base", l.tier(0), 0);
        CHECKS.equal("with the present tier", l.purchase(0, 0, 10), 1);
        CHECKS.equal("gold", l.tier(0), 1);
        logged(l, 0, 6, 0, 0, 1);
        logged(l, 1, 0, 0, 0, 1);
        CHECKS.equal("the bonus", l.purchase(0, 0, 30), 4);
        CHECKS.equal("two tiers at once", l.purchase(1, 0, 50000), 5000);
        CHECKS.equal("plat", l.tier(1), 2);
        l.advance(12);
        CHECKS.equal("bonus and promotion", l.purchase(1, 1, 2000), 100 * 207 / 100);
        CHECKS.equal("the cap is one of the base", l.purchase(0, 1, 100000), 500 * 157 / 100);
    }

    private static void promise7Greatest() {
        String text = "tier a 0 300;category c 50 100000;member m;life 1000;house h 100;"
                + "promo c 0 9999 500;".repeat(8);
        PointsLedger l = Checks.loaded(text.substring(0, text.length() - 1));
        CHECKS.equal("the greatest purchase", l.purchase(0, 0, 100000), 2200000);
        CHECKS.equal("its base", l.purchasePart(0, 3), 50000);
        l.join(0, 0);
        CHECKS.equal("once more", l.purchase(0, 0, 100000), 2200000);
        CHECKS.equal("all in the pool", l.poolBalance(0), 2200000);
        for (int i = 2; i < 450; i++) {
            l.purchase(0, 0, 100000);
        }
        CHECKS.equal("450 of them", l.total(0), 990000000);
        CHECKS.equal("all of them are there", l.total(5), 990000000);
        CHECKS.equal("all of them qualify", l.qualifying(0), 22500000);
        CHECKS.equal("they expire", l.advance(400) + l.advance(400) + l.advance(200), 990000000);
        CHECKS.equal("no rate", Checks.loaded("category c 0 0;member m").purchase(0, 0, 100000), 0);
    }

    private static void promise7Wrong() {
        CHECKS.refused("member -1", INDEX, ChangesTest::town, l -> l.purchase(-1, 0, 1));
        CHECKS.refused("member 3", INDEX, ChangesTest::town, l -> l.purchase(3, 0, 1));
        CHECKS.refused("category -1", INDEX, ChangesTest::town, l -> l.purchase(0, -1, 1));
        CHECKS.refused("category 2", INDEX, ChangesTest::town, l -> l.purchase(0, 2, 1));
        CHECKS.refused("cents 0", ARGUMENT, ChangesTest::town, l -> l.purchase(0, 0, 0));
        CHECKS.refused("cents 100001", ARGUMENT, ChangesTest::town, l -> l.purchase(0, 0, 100001));
        CHECKS.refused("cents least", ARGUMENT, ChangesTest::town,
                l -> l.purchase(0, 0, Integer.MIN_VALUE));
        CHECKS.refused("member first", INDEX, ChangesTest::town, l -> l.purchase(3, 0, 0));
        CHECKS.refused("category first", INDEX, ChangesTest::town, l -> l.purchase(0, 2, 0));
        CHECKS.refused("no category", INDEX, () -> Checks.loaded("member m"),
                l -> l.purchase(0, 0, 1));
        CHECKS.refused("a new ledger", INDEX, PointsLedger::new, l -> l.purchase(0, 0, 1));
    }

    private static void promise8Refund() {
        PointsLedger l = town();
        l.purchase(0, 0, 1000);
        l.advance(1);
        l.purchase(0, 0, 2000);
        CHECKS.equal("a refund", l.refund(1), 0);
        account(l, 0, 100, 100);
        logged(l, 0, 1, 1, 0, 200);
        CHECKS.equal("reclaimed", l.total(3), 200);
        CHECKS.equal("refunded", l.purchasePart(1, 6), 1);
        CHECKS.equal("the other is not", l.purchasePart(0, 6), 0);
        CHECKS.equal("all points stay", l.total(0), 300);
        l.redeem(0, 30);
        CHECKS.equal("the debt increases by", l.refund(0), 30);
        CHECKS.equal("the debt", l.debt(0), 30);
        CHECKS.equal("all debts", l.total(6), 30);
        CHECKS.equal("reclaimed in all", l.total(3), 270);
        logged(l, 0, 1, 1, 0, 70);
        l.purchase(0, 0, 1);
        CHECKS.equal("no points", l.refund(2), 0);
        logged(l, 0, 1, 1, 0, 0);
        l.purchase(1, 0, 10);
        l.refund(3);
        CHECKS.equal("the debt of another stays", l.debt(0), 30);
        CHECKS.equal("one point", l.balance(1) + l.debt(1), 0);
    }

    /** ann bought 100 points on day 0 and 200 on day 1, of which 40 percent are in the pool. */
    private static PointsLedger pooled() {
        PointsLedger l = town();
        l.join(0, 0);
        l.join(1, 0);
        l.purchase(0, 0, 1000);
        l.advance(1);
        l.purchase(0, 0, 2000);
        l.purchase(1, 0, 500);
        return l;
    }

    private static void promise8Order() {
        PointsLedger l = pooled();
        CHECKS.equal("the day of the purchase first", l.refund(1), 0);
        account(l, 0, 60, 100);
        pool(l, 0, 40, 100, 0, 20, 101, 1);
        l = pooled();
        l.redeem(0, 60);
        CHECKS.equal("then this day in the pool, then the account", l.refund(0), 0);
        account(l, 0, 60, 101);
        pool(l, 0, 80, 101, 0, 20, 101, 1);
        l = pooled();
        l.redeem(0, 180 + 40 + 10);
        CHECKS.equal("then the contributor's points", l.refund(0), 30);
        account(l, 0);
        pool(l, 0, 20, 101, 1);
        CHECKS.equal("reclaimed", l.total(3), 70);
        l = pooled();
        l.redeem(0, 185);
        CHECKS.equal("the pool's cohorts in their order", l.refund(1), 85);
        account(l, 0);
        pool(l, 0, 20, 101, 1);
        l = pooled();
        l.transfer(0, 2, 100);
        CHECKS.equal("account and pool of the day", l.refund(1), 0);
        account(l, 0);
        pool(l, 0, 20, 101, 1);
    }

    private static void promise8Household() {
        PointsLedger l = pooled();
        l.leave(0);
        account(l, 0, 100, 100, 200, 101);
        l.join(0, 1);
        l.setShare(1, 100);
        l.purchase(0, 0, 700);
        l.redeem(0, 300);
        CHECKS.equal("from the present household", l.refund(0), 30);
        pool(l, 1);
        pool(l, 0, 20, 101, 1);
        l = pooled();
        l.redeem(1, 30);
        CHECKS.equal("not from another's points", l.refund(2), 30);
        pool(l, 0, 40, 100, 0, 80, 101, 0);
        l = town();
        l.purchase(0, 0, 1000);
        l.redeem(0, 100);
        CHECKS.equal("without a household", l.refund(0), 100);
    }

    private static void promise8Tier() {
        PointsLedger l = town();
        l.purchase(0, 0, 5000);
        l.purchase(0, 0, 5000);
        CHECKS.equal("gold", l.tier(0), 1);
        l.advance(2);
        l.refund(0);
        CHECKS.equal("still gold", l.tier(0), 1);
        CHECKS.equal("below", l.belowSince(0), 2);
        CHECKS.equal("less qualifies", l.qualifying(0), 500);
        l = Checks.loaded("tier a 0 0;tier b 10 0;category c 10 0;member m;member n;grace 0");
        l.purchase(0, 0, 100);
        l.purchase(1, 0, 100);
        l.refund(0);
        CHECKS.equal("down at once", l.tier(0), 0);
        CHECKS.equal("not below", l.belowSince(0), -1);
        CHECKS.equal("the other stays", l.tier(1), 1);
        logged(l, 0, 6, 0, 0, 0);
        logged(l, 1, 1, 0, 0, 10);
        l = town();
        l.purchase(0, 0, 1000);
        l.advance(30);
        l.purchase(0, 0, 500);
        l.refund(0);
        CHECKS.equal("what was out of the window stays out", l.qualifying(0), 50);
    }

    private static PointsLedger manyPurchases() {
        PointsLedger l = town();
        for (int i = 0; i < 41; i++) {
            l.purchase(i % 2, 0, 100 + 10 * i);
        }
        return l;
    }

    private static PointsLedger refunded() {
        PointsLedger l = town();
        l.purchase(0, 0, 100);
        l.refund(0);
        return l;
    }

    private static void promise8Wrong() {
        CHECKS.refused("no purchase", ELEMENT, ChangesTest::town, l -> l.refund(0));
        CHECKS.refused("purchase -1", ELEMENT, ChangesTest::pooled, l -> l.refund(-1));
        CHECKS.refused("purchase 3", ELEMENT, ChangesTest::pooled, l -> l.refund(3));
        CHECKS.refused("the greatest", ELEMENT, ChangesTest::pooled, l -> l.refund(Integer.MAX_VALUE));
        CHECKS.refused("refunded", STATE, ChangesTest::refunded, l -> l.refund(0));
        CHECKS.refused("not kept", ELEMENT, ChangesTest::manyPurchases, l -> l.refund(0));
        CHECKS.equal("the oldest one that is kept", manyPurchases().refund(1), 0);
        CHECKS.equal("the latest one", manyPurchases().refund(40), 0);
        PointsLedger l = refunded();
        for (int i = 0; i < 39; i++) {
            l.purchase(1, 0, 10);
        }
        CHECKS.same("kept and refunded", Checks.outcome(l, x -> x.refund(0)), STATE.getName());
        l.purchase(1, 0, 10);
        CHECKS.same("not kept is first", Checks.outcome(l, x -> x.refund(0)), ELEMENT.getName());
    }

    private static void promise9Redeem() {
        PointsLedger l = pooled();
        CHECKS.equal("from the account", l.redeem(0, 61), 0);
        account(l, 0, 119, 101);
        logged(l, 0, 2, 1, 0, 61);
        CHECKS.equal("then from the pool", l.redeem(0, 120), 1);
        pool(l, 0, 39, 100, 0, 80, 101, 0, 20, 101, 1);
        CHECKS.equal("of all contributors", l.redeem(1, 30 + 39 + 80 + 20), 139);
        pool(l, 0);
        CHECKS.equal("redeemed", l.total(1), 61 + 120 + 169);
        l = Checks.loaded("category c 10 0;member m;life 10");
        l.purchase(0, 0, 1000);
        CHECKS.equal("the only one", l.redeem(0, 1), 0);
        l.advance(3);
        l.purchase(0, 0, 1000);
        l.redeem(0, 105);
        CHECKS.equal("part 0", l.redeemedWith(0), 1 + 6);
        CHECKS.equal("part 3", l.redeemedWith(3), 99);
        l.advance(9);
        l.redeem(0, 94);
        CHECKS.equal("part 9", l.redeemedWith(9), 94);
        CHECKS.equal("all are redeemed", l.available(0), 0);
    }

    private static void promise9Wrong() {
        CHECKS.refused("redeem: member -1", INDEX, ChangesTest::pooled, l -> l.redeem(-1, 1));
        CHECKS.refused("redeem: member 3", INDEX, ChangesTest::pooled, l -> l.redeem(3, 1));
        CHECKS.refused("redeem: member first", INDEX, ChangesTest::pooled, l -> l.redeem(3, 0));
        CHECKS.refused("redeem 0", ARGUMENT, ChangesTest::pooled, l -> l.redeem(0, 0));
        CHECKS.refused("redeem 0 of none", ARGUMENT, ChangesTest::pooled, l -> l.redeem(2, 0));
        CHECKS.refused("redeem least", ARGUMENT, ChangesTest::pooled,
                l -> l.redeem(0, Integer.MIN_VALUE));
        CHECKS.refused("too many", STATE, ChangesTest::pooled, l -> l.redeem(0, 180 + 140 + 1));
        CHECKS.refused("far too many", STATE, ChangesTest::pooled,
                l -> l.redeem(0, Integer.MAX_VALUE));
        CHECKS.refused("none", STATE, ChangesTest::pooled, l -> l.redeem(2, 1));
        CHECKS.equal("just all", pooled().redeem(0, 180 + 140), 140);
    }

    private static void promise10Transfer() {
        PointsLedger l = pooled();
        CHECKS.equal("a transfer", l.transfer(0, 2, 70), 0);
        account(l, 0, 110, 101);
        account(l, 2, 60, 100, 10, 101);
        logged(l, 0, 3, 1, 0, 70);
        CHECKS.equal("one point", l.transfer(0, 2, 1), 0);
        account(l, 2, 60, 100, 11, 101);
        CHECKS.equal("back", l.transfer(2, 0, 71), 0);
        account(l, 0, 60, 100, 120, 101);
        account(l, 2);
        pool(l, 0, 40, 100, 0, 80, 101, 0, 20, 101, 1);
        l = town();
        l.purchase(1, 0, 1000);
        l.redeem(1, 80);
        l.refund(0);
        CHECKS.equal("bob's debt", l.debt(1), 80);
        l.purchase(0, 0, 500);
        l.advance(1);
        l.purchase(0, 0, 600);
        CHECKS.equal("settled", l.transfer(0, 1, 90), 80);
        account(l, 1, 10, 101);
        account(l, 0, 20, 101);
        CHECKS.equal("no debt", l.debt(1), 0);
        CHECKS.equal("total settled", l.total(4), 80);
        CHECKS.equal("not settled", l.transfer(0, 1, 20), 0);
    }

    private static void promise10Wrong() {
        CHECKS.refused("giver -1", INDEX, ChangesTest::pooled, l -> l.transfer(-1, 0, 1));
        CHECKS.refused("giver 3", INDEX, ChangesTest::pooled, l -> l.transfer(3, 0, 1));
        CHECKS.refused("other -1", INDEX, ChangesTest::pooled, l -> l.transfer(0, -1, 1));
        CHECKS.refused("other 3", INDEX, ChangesTest::pooled, l -> l.transfer(0, 3, 1));
        CHECKS.refused("existence first", INDEX, ChangesTest::pooled, l -> l.transfer(3, 3, 0));
        CHECKS.refused("other's existence first", INDEX, ChangesTest::pooled,
                l -> l.transfer(0, 3, 0));
        CHECKS.refused("the same", ARGUMENT, ChangesTest::pooled, l -> l.transfer(0, 0, 1));
        CHECKS.refused("the same, too many", ARGUMENT, ChangesTest::pooled,
                l -> l.transfer(0, 0, 10000));
        CHECKS.refused("transfer 0", ARGUMENT, ChangesTest::pooled, l -> l.transfer(0, 1, 0));
        CHECKS.refused("transfer -1 of none", ARGUMENT, ChangesTest::pooled,
                l -> l.transfer(2, 1, -1));
        CHECKS.refused("the pool does not count", STATE, ChangesTest::pooled,
                l -> l.transfer(0, 1, 181));
        CHECKS.equal("the whole account", pooled().transfer(0, 1, 180), 0);
        CHECKS.refused("transfer of none", STATE, ChangesTest::pooled, l -> l.transfer(2, 1, 1));
    }

    /** Five members a to e; a, b, c and d live in x. */
    private static PointsLedger full() {
        PointsLedger l = Checks.loaded("member a;member b;member c;member d;member e;house x 5;house y 6");
        for (int member = 0; member < 4; member++) {
            CHECKS.equal("members after a join", l.join(member, 0), member + 1);
        }
        return l;
    }

    private static void promise11Join() {
        PointsLedger l = full();
        CHECKS.equal("the household", l.household(3), 0);
        CHECKS.equal("its members", l.members(0), 15);
        CHECKS.equal("the other household", l.join(4, 1), 1);
        CHECKS.equal("no log", l.logSize(), 0);
        CHECKS.equal("changes", l.undoCount(), 5);
        CHECKS.refused("join: member -1", INDEX, ChangesTest::full, x -> x.join(-1, 0));
        CHECKS.refused("join: member 5", INDEX, ChangesTest::full, x -> x.join(5, 0));
        CHECKS.refused("join: household -1", INDEX, ChangesTest::full, x -> x.join(4, -1));
        CHECKS.refused("join: household 2", INDEX, ChangesTest::full, x -> x.join(4, 2));
        CHECKS.refused("join: existence first", INDEX, ChangesTest::full, x -> x.join(0, 2));
        CHECKS.refused("has a household", STATE, ChangesTest::full, x -> x.join(0, 1));
        CHECKS.refused("is there", STATE, ChangesTest::full, x -> x.join(0, 0));
        CHECKS.refused("is full", STATE, ChangesTest::full, x -> x.join(4, 0));
        l = full();
        l.leave(1);
        CHECKS.equal("room again", l.join(4, 0), 4);
        CHECKS.equal("with its members", l.members(0), 1 + 4 + 8 + 16);
    }

    private static void promise12Leave() {
        PointsLedger l = pooled();
        CHECKS.equal("leave", l.leave(0), 120);
        account(l, 0, 100, 100, 200, 101);
        pool(l, 0, 20, 101, 1);
        CHECKS.equal("no household", l.household(0), -1);
        CHECKS.equal("bob stays", l.members(0), 2);
        CHECKS.equal("the log", l.logSize(), 3);
        CHECKS.equal("nothing is settled", l.total(4), 0);
        CHECKS.equal("nothing to take along", l.join(0, 0) * 0 + l.leave(0), 0);
        l = pooled();
        l.redeem(1, 90);
        pool(l, 0, 60, 101, 0, 20, 101, 1);
        l.leave(1);
        account(l, 1, 20, 101);
        CHECKS.equal("what is left", l.leave(0), 60);
        account(l, 0, 60, 100, 180, 101);
        CHECKS.equal("nobody is there", l.members(0), 0);
        promise12Debt();
        CHECKS.refused("leave: member -1", INDEX, ChangesTest::pooled, x -> x.leave(-1));
        CHECKS.refused("leave: member 3", INDEX, ChangesTest::pooled, x -> x.leave(3));
        CHECKS.refused("leaves nothing", STATE, ChangesTest::pooled, x -> x.leave(2));
    }

    /** A debt beside points in the pool: the refund of another purchase came before them. */
    private static void promise12Debt() {
        PointsLedger l = town();
        l.purchase(0, 0, 1000);
        l.redeem(0, 100);
        l.refund(0);
        l.join(0, 0);
        l.setShare(0, 100);
        l.purchase(0, 0, 700);
        l.advance(1);
        l.purchase(0, 0, 800);
        CHECKS.equal("the debt stands", l.debt(0), 100);
        CHECKS.equal("leave with a debt", l.leave(0), 150);
        account(l, 0, 50, 101);
        CHECKS.equal("the debt is settled", l.debt(0), 0);
        CHECKS.equal("settled", l.total(4), 100);
    }

    private static void promise13SetShare() {
        PointsLedger l = town();
        CHECKS.equal("the first share", l.setShare(0, 100), 40);
        CHECKS.equal("the share before", l.setShare(0, 0), 100);
        CHECKS.equal("the share 0", l.setShare(0, 0), 0);
        CHECKS.equal("of the other", l.setShare(1, 33), 0);
        CHECKS.equal("three changes and one", l.undoCount(), 4);
        CHECKS.equal("no log", l.logSize(), 0);
        l.join(0, 1);
        l.purchase(0, 0, 1000);
        CHECKS.equal("it counts", l.poolBalance(1), 33);
        CHECKS.refused("household -1", INDEX, ChangesTest::town, x -> x.setShare(-1, 0));
        CHECKS.refused("household 2", INDEX, ChangesTest::town, x -> x.setShare(2, 0));
        CHECKS.refused("household first", INDEX, ChangesTest::town, x -> x.setShare(2, 101));
        CHECKS.refused("percent -1", ARGUMENT, ChangesTest::town, x -> x.setShare(0, -1));
        CHECKS.refused("percent 101", ARGUMENT, ChangesTest::town, x -> x.setShare(0, 101));
        PointsLedger same = town();
        Checks.outcome(same, x -> x.setShare(0, 101));
        CHECKS.equal("the share stays", same.setShare(0, 1), 40);
    }

    private static void promise14Advance() {
        PointsLedger l = pooled();
        l.purchase(2, 0, 70);
        CHECKS.equal("nothing expires", l.advance(98), 0);
        CHECKS.equal("today", l.today(), 99);
        CHECKS.equal("log entries", l.logSize(), 4);
        CHECKS.equal("day 100", l.advance(1), 100);
        logged(l, 1, 4, 100, 0, 60);
        logged(l, 0, 5, 100, 0, 40);
        account(l, 0, 120, 101);
        pool(l, 0, 80, 101, 0, 20, 101, 1);
        CHECKS.equal("day 101", l.advance(1), 120 + 30 + 7 + 80 + 20);
        logged(l, 3, 4, 101, 0, 120);
        logged(l, 2, 4, 101, 1, 30);
        logged(l, 1, 4, 101, 2, 7);
        logged(l, 0, 5, 101, 0, 100);
        CHECKS.equal("expired", l.total(2), 357);
        CHECKS.equal("nothing is left", l.total(5), 0);
        l = pooled();
        CHECKS.equal("over many days", l.advance(400), 350);
        logged(l, 0, 5, 101, 0, 100);
        logged(l, 4, 4, 100, 0, 60);
        CHECKS.equal("one change", l.undoCount(), 7);
        l = Checks.loaded("category c 10 0;member a;member b;house x 50;house y 50;life 1");
        l.join(0, 1);
        l.join(1, 0);
        l.purchase(0, 0, 100);
        l.purchase(1, 0, 200);
        CHECKS.equal("the least life", l.advance(1), 30);
        logged(l, 3, 4, 1, 0, 5);
        logged(l, 2, 4, 1, 1, 10);
        logged(l, 1, 5, 1, 0, 10);
        logged(l, 0, 5, 1, 1, 5);
        l.purchase(0, 0, 20);
        CHECKS.equal("one point in an account, one in a pool", l.advance(1), 2);
        logged(l, 1, 4, 2, 0, 1);
        logged(l, 0, 5, 2, 1, 1);
    }

    private static void promise14Tiers() {
        PointsLedger l = Checks.loaded("tier a 0 0;tier b 10 0;tier c 20 0;category k 10 0;"
                + "member m;member n;life 4;window 4;grace 2");
        l.purchase(1, 0, 100);
        l.purchase(0, 0, 200);
        l.advance(2);
        l.purchase(1, 0, 100);
        CHECKS.equal("two tiers up", l.tier(1), 2);
        l.advance(1);
        CHECKS.equal("nobody is below", l.belowSince(0), -1);
        l.advance(1);
        CHECKS.equal("m is below", l.belowSince(0), 4);
        CHECKS.equal("n is below", l.belowSince(1), 4);
        logged(l, 1, 4, 4, 0, 20);
        logged(l, 0, 4, 4, 1, 10);
        l.advance(2);
        CHECKS.equal("m falls", l.tier(0), 0);
        CHECKS.equal("n falls too", l.tier(1), 0);
        logged(l, 2, 4, 6, 1, 10);
        logged(l, 1, 6, 6, 0, 0);
        logged(l, 0, 6, 6, 1, 0);
    }

    private static void promise14Wrong() {
        CHECKS.refused("days 0", ARGUMENT, ChangesTest::pooled, l -> l.advance(0));
        CHECKS.refused("days -1", ARGUMENT, ChangesTest::pooled, l -> l.advance(-1));
        CHECKS.refused("days 401", ARGUMENT, ChangesTest::pooled, l -> l.advance(401));
        CHECKS.refused("days least", ARGUMENT, ChangesTest::pooled,
                l -> l.advance(Integer.MIN_VALUE));
        CHECKS.refused("days greatest", ARGUMENT, ChangesTest::pooled,
                l -> l.advance(Integer.MAX_VALUE));
        CHECKS.refused("day 10000", ARGUMENT, ChangesTest::lateTown, l -> l.advance(400));
        PointsLedger l = lateTown();
        CHECKS.equal("day 9999", l.advance(399), 10);
        CHECKS.equal("is the last one", l.today(), 9999);
        CHECKS.same("no day more", Checks.outcome(l, x -> x.advance(1)), ARGUMENT.getName());
        CHECKS.equal("a purchase on it", l.purchase(0, 0, 100), 10);
        CHECKS.equal("expires behind it", l.cohort(0, 0, 1), 10099);
    }

    /** Day 9600, with ten points. */
    private static PointsLedger lateTown() {
        PointsLedger l = town();
        for (int i = 0; i < 24; i++) {
            l.advance(400);
        }
        l.purchase(0, 0, 100);
        return l;
    }
}
