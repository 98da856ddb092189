import java.util.NoSuchElementException;

/** Promises 31 to 41: tiers, and what purchases earn. */
public final class TiersAndEarningTest {
    private static final Checks CHECKS = new Checks();
    private static final Class<?> INDEX = IndexOutOfBoundsException.class;
    private static final Class<?> ARGUMENT = IllegalArgumentException.class;
    private static final Class<?> ELEMENT = NoSuchElementException.class;

    public static void main(String[] args) {
        promise31To34Tier();
        promise33Qualifying();
        promise34Grace();
        promise34Recovers();
        promise35ToNextTier();
        promise36TierAfter();
        promise36Wrong();
        promise37WouldEarn();
        promise38BestCategory();
        promise39LeastCents();
        promise40PurchaseCount();
        promise41PurchasePart();
        CHECKS.finish("TiersAndEarningTest");
    }

    /** Tiers 0, 100, 200; k with a rate of 10; m 0 and n 1; window 10, grace 3. */
    private static PointsLedger ladder() {
        return Checks.loaded("tier a 0 0;tier b 100 10;tier c 200 20;category k 10 0;"
                + "category q 1 30;promo q 5 6 300;member m;member n;life 50;window 10;grace 3");
    }

    private static void standing(PointsLedger l, int tier, int earned, int qualifying, int below) {
        String when = " on day " + l.today();
        CHECKS.equal("tier" + when, l.tier(0), tier);
        CHECKS.equal("earned tier" + when, l.earnedTier(0), earned);
        CHECKS.equal("qualifying" + when, l.qualifying(0), qualifying);
        CHECKS.equal("below since" + when, l.belowSince(0), below);
    }

    private static void promise31To34Tier() {
        PointsLedger l = ladder();
        standing(l, 0, 0, 0, -1);
        l.purchase(0, 0, 999);
        standing(l, 0, 0, 99, -1);
        l.purchase(0, 0, 10);
        standing(l, 1, 1, 100, -1);
        l.advance(4);
        l.purchase(0, 0, 1000);
        standing(l, 2, 2, 200, -1);
        l.advance(5);
        standing(l, 2, 2, 200, -1);
        l.advance(1);
        standing(l, 2, 1, 100, 10);
        l.advance(2);
        standing(l, 2, 1, 100, 10);
        l.advance(1);
        standing(l, 1, 1, 100, -1);
        l.advance(1);
        standing(l, 1, 0, 0, 14);
        l.advance(3);
        standing(l, 0, 0, 0, -1);
        CHECKS.equal("the other", l.tier(1), 0);
        for (int member : new int[] {-1, 2, Integer.MIN_VALUE, Integer.MAX_VALUE}) {
            CHECKS.refused("tier", INDEX, TiersAndEarningTest::ladder, x -> x.tier(member));
            CHECKS.refused("earnedTier", INDEX, TiersAndEarningTest::ladder, x -> x.earnedTier(member));
            CHECKS.refused("qualifying", INDEX, TiersAndEarningTest::ladder, x -> x.qualifying(member));
            CHECKS.refused("belowSince", INDEX, TiersAndEarningTest::ladder, x -> x.belowSince(member));
        }
    }

    private static void promise33Qualifying() {
        PointsLedger l = ladder();
        for (int i = 0; i < 50; i++) {
            l.purchase(0, 0, 20);
        }
        CHECKS.equal("purchases that are not kept qualify", l.qualifying(0), 100);
        CHECKS.equal("not for another", l.qualifying(1), 0);
        l.refund(49);
        CHECKS.equal("refunded ones do not", l.qualifying(0), 98);
        l.purchase(1, 1, 100000);
        CHECKS.equal("the base with its cap", l.qualifying(1), 30);
        l.advance(5);
        l.purchase(1, 1, 1000);
        CHECKS.equal("without the extras", l.qualifying(1), 40);
        l.refund(50);
        CHECKS.equal("the other day's", l.qualifying(1), 10);
        l.advance(9);
        CHECKS.equal("the last day", l.qualifying(1), 10);
        l.advance(1);
        CHECKS.equal("is over", l.qualifying(1), 0);
        l.refund(51);
        CHECKS.equal("a late refund", l.qualifying(1), 0);
        PointsLedger day = Checks.loaded("category k 10 0;member m;window 1");
        day.purchase(0, 0, 1000);
        CHECKS.equal("a window of one day", day.qualifying(0), 100);
        day.advance(1);
        CHECKS.equal("has passed", day.qualifying(0), 0);
    }

    private static void promise34Grace() {
        PointsLedger l = Checks.loaded("tier a 0 0;tier b 100 0;category k 10 0;member m;window 2");
        l.purchase(0, 0, 1000);
        l.advance(2);
        standing(l, 0, 0, 0, -1);
        l = Checks.loaded("tier a 0 0;tier b 100 0;category k 10 0;member m;window 2;grace 400");
        l.purchase(0, 0, 1000);
        l.advance(2);
        standing(l, 1, 0, 0, 2);
        l.advance(399);
        standing(l, 1, 0, 0, 2);
        l.advance(1);
        standing(l, 0, 0, 0, -1);
    }

    private static void promise34Recovers() {
        PointsLedger l = ladder();
        l.purchase(0, 0, 2000);
        l.advance(11);
        standing(l, 2, 0, 0, 10);
        l.purchase(0, 0, 1000);
        standing(l, 2, 1, 100, 10);
        l.purchase(0, 0, 1000);
        standing(l, 2, 2, 200, -1);
        l.refund(1);
        standing(l, 2, 1, 100, 11);
        l.advance(1);
        l.refund(2);
        standing(l, 2, 0, 0, 11);
        l.advance(1);
        l.purchase(0, 0, 1000);
        standing(l, 2, 1, 100, 11);
        l.advance(1);
        standing(l, 1, 1, 100, -1);
    }

    private static PointsLedger topped() {
        PointsLedger l = ladder();
        l.purchase(0, 0, 2000);
        l.purchase(1, 0, 1000);
        return l;
    }

    private static void promise35ToNextTier() {
        PointsLedger l = ladder();
        CHECKS.equal("from nothing", l.toNextTier(0), 100);
        l.purchase(0, 0, 999);
        CHECKS.equal("one is lacking", l.toNextTier(0), 1);
        l.purchase(0, 0, 10);
        CHECKS.equal("to the one behind", l.toNextTier(0), 100);
        l.purchase(0, 0, 2000);
        l.refund(2);
        CHECKS.equal("behind the earned, not the present one", l.toNextTier(0), 100);
        l.advance(10);
        CHECKS.equal("the window counts", l.toNextTier(0), 100);
        CHECKS.refused("member -1", INDEX, TiersAndEarningTest::topped, x -> x.toNextTier(-1));
        CHECKS.refused("member 2", INDEX, TiersAndEarningTest::topped, x -> x.toNextTier(2));
        CHECKS.refused("the last tier", ELEMENT, TiersAndEarningTest::topped, x -> x.toNextTier(0));
        CHECKS.equal("not of another", topped().toNextTier(1), 100);
        CHECKS.refused("one tier", ELEMENT, () -> Checks.loaded("member m"), x -> x.toNextTier(0));
    }

    private static void promise36TierAfter() {
        PointsLedger l = ladder();
        l.purchase(0, 0, 2000);
        l.advance(4);
        l.purchase(0, 0, 1000);
        String before = Picture.ofPresent(l);
        int[][] due = {{0, 2}, {5, 2}, {8, 2}, {9, 1}, {12, 1}, {13, 0}, {14, 0}, {2000, 0}};
        for (int[] row : due) {
            // Day 10 takes 200 away (below since 10, down on 13), day 14 the rest (down on 17).
            CHECKS.equal("tier after " + row[0], l.tierAfter(0, row[0]), row[1]);
        }
        CHECKS.same("a forecast changes nothing", Picture.ofPresent(l), before);
        CHECKS.equal("of another", l.tierAfter(1, 100), 0);
        CHECKS.equal("of the first again", l.tierAfter(0, 0), 2);
        for (int[] row : due) {
            PointsLedger later = ladder();
            later.purchase(0, 0, 2000);
            later.advance(4);
            later.purchase(0, 0, 1000);
            for (int left = row[0]; left > 0; left -= Math.min(left, 400)) {
                later.advance(Math.min(left, 400));
            }
            CHECKS.equal("as it comes, after " + row[0], later.tier(0), row[1]);
        }
        PointsLedger eve = ladder();
        eve.purchase(0, 0, 2000);
        eve.advance(9);
        CHECKS.equal("below from tomorrow on, in three days", eve.tierAfter(0, 3), 2);
        CHECKS.equal("below from tomorrow on, in four days", eve.tierAfter(0, 4), 0);
        PointsLedger late = ladder();
        for (int i = 0; i < 24; i++) {
            late.advance(400);
        }
        late.advance(399);
        late.purchase(0, 0, 1000);
        CHECKS.equal("beyond the last day", late.tierAfter(0, 12), 1);
        CHECKS.equal("long beyond the last day", late.tierAfter(0, 13), 0);
    }

    private static void promise36Wrong() {
        CHECKS.refused("tierAfter: member -1", INDEX, TiersAndEarningTest::topped,
                x -> x.tierAfter(-1, 0));
        CHECKS.refused("tierAfter: member 2", INDEX, TiersAndEarningTest::topped,
                x -> x.tierAfter(2, 0));
        CHECKS.refused("tierAfter: member first", INDEX, TiersAndEarningTest::topped,
                x -> x.tierAfter(2, -1));
        CHECKS.refused("tierAfter -1", ARGUMENT, TiersAndEarningTest::topped,
                x -> x.tierAfter(0, -1));
        CHECKS.refused("tierAfter 2001", ARGUMENT, TiersAndEarningTest::topped,
                x -> x.tierAfter(0, 2001));
    }

    private static void promise37WouldEarn() {
        PointsLedger l = topped();
        String before = Picture.ofPresent(l);
        CHECKS.equal("with the bonus of c", l.wouldEarn(0, 0, 1000), 120);
        CHECKS.equal("with the bonus of b", l.wouldEarn(1, 0, 1000), 110);
        CHECKS.equal("the cap", l.wouldEarn(0, 1, 100000), 36);
        CHECKS.equal("rounded down twice", l.wouldEarn(1, 0, 199), 20);
        CHECKS.equal("the least", l.wouldEarn(0, 0, 1), 0);
        CHECKS.same("nothing changes", Picture.ofPresent(l), before);
        l.advance(5);
        CHECKS.equal("with the extras", l.wouldEarn(0, 1, 100000), 30 * 420 / 100);
        CHECKS.refused("earn: member -1", INDEX, TiersAndEarningTest::topped,
                x -> x.wouldEarn(-1, 0, 1));
        CHECKS.refused("earn: member 2", INDEX, TiersAndEarningTest::topped,
                x -> x.wouldEarn(2, 0, 0));
        CHECKS.refused("earn: category -1", INDEX, TiersAndEarningTest::topped,
                x -> x.wouldEarn(0, -1, 1));
        CHECKS.refused("earn: category 2", INDEX, TiersAndEarningTest::topped,
                x -> x.wouldEarn(0, 2, 0));
        CHECKS.refused("earn: cents 0", ARGUMENT, TiersAndEarningTest::topped,
                x -> x.wouldEarn(0, 0, 0));
        CHECKS.refused("earn: cents 100001", ARGUMENT, TiersAndEarningTest::topped,
                x -> x.wouldEarn(0, 0, 100001));
    }

    private static PointsLedger shops() {
        return Checks.loaded("category a 1 0;category b 10 20;category c 5 0;category d 10 20;"
                + "promo d 3 3 50;promo a 4 4 500;promo a 4 4 500;member m");
    }

    private static void promise38BestCategory() {
        PointsLedger l = shops();
        CHECKS.equal("all the same", l.bestCategory(0, 1), 0);
        CHECKS.equal("the first of two", l.bestCategory(0, 200), 1);
        CHECKS.equal("still", l.bestCategory(0, 419), 1);
        CHECKS.equal("beyond the cap", l.bestCategory(0, 420), 2);
        l.advance(3);
        CHECKS.equal("the promotion", l.bestCategory(0, 200), 3);
        l.advance(1);
        CHECKS.equal("another one", l.bestCategory(0, 200), 0);
        CHECKS.equal("the greatest amount", l.bestCategory(0, 100000), 0);
        CHECKS.refused("best: member -1", INDEX, TiersAndEarningTest::shops,
                x -> x.bestCategory(-1, 1));
        CHECKS.refused("best: member first", INDEX, TiersAndEarningTest::shops,
                x -> x.bestCategory(1, 0));
        CHECKS.refused("best: cents 0", ARGUMENT, TiersAndEarningTest::shops,
                x -> x.bestCategory(0, 0));
        CHECKS.refused("best: cents 100001", ARGUMENT, TiersAndEarningTest::shops,
                x -> x.bestCategory(0, 100001));
        CHECKS.refused("cents second", ARGUMENT, () -> Checks.loaded("member m"),
                x -> x.bestCategory(0, 0));
        CHECKS.refused("no categories", ELEMENT, () -> Checks.loaded("member m"),
                x -> x.bestCategory(0, 1));
        CHECKS.refused("nobody", INDEX, PointsLedger::new, x -> x.bestCategory(0, 1));
    }

    private static void promise39LeastCents() {
        PointsLedger l = topped();
        int[][] due = {{0, 0, 1, 10}, {0, 0, 12, 100}, {0, 0, 13, 110}, {1, 0, 11, 100},
            {1, 0, 12, 110}, {0, 1, 36, 3000}, {0, 1, 1, 100}, {0, 0, 12000, 100000}};
        for (int[] row : due) {
            int cents = l.leastCents(row[0], row[1], row[2]);
            CHECKS.equal("least cents for " + row[2], cents, row[3]);
            CHECKS.equal("less are too few", l.wouldEarn(row[0], row[1], cents - 1) < row[2] ? 1 : 0, 1);
        }
        PointsLedger rich = Checks.loaded("category c 50 0;category d 0 0;promo c 0 9 500;member m");
        CHECKS.equal("one cent is too little for", rich.leastCents(0, 0, 1), 2);
        CHECKS.equal("all that there is", rich.leastCents(0, 0, 300000), 100000);
        PointsLedger cent = Checks.loaded("category c 50 0;promo c 0 9 100;member m");
        CHECKS.equal("two points", cent.leastCents(0, 0, 2), 2);
        CHECKS.refused("beyond the cap", ELEMENT, TiersAndEarningTest::topped,
                x -> x.leastCents(0, 1, 37));
        CHECKS.refused("beyond all cents", ELEMENT, TiersAndEarningTest::topped,
                x -> x.leastCents(0, 0, 12001));
        CHECKS.refused("the most points", ELEMENT, TiersAndEarningTest::topped,
                x -> x.leastCents(0, 0, Integer.MAX_VALUE));
        CHECKS.refused("no rate", ELEMENT, () -> Checks.loaded("category d 0 0;member m"),
                x -> x.leastCents(0, 0, 1));
        CHECKS.refused("least: member -1", INDEX, TiersAndEarningTest::topped,
                x -> x.leastCents(-1, 0, 1));
        CHECKS.refused("least: member 2", INDEX, TiersAndEarningTest::topped,
                x -> x.leastCents(2, 0, 0));
        CHECKS.refused("least: category -1", INDEX, TiersAndEarningTest::topped,
                x -> x.leastCents(0, -1, 1));
        CHECKS.refused("least: category 2", INDEX, TiersAndEarningTest::topped,
                x -> x.leastCents(0, 2, 0));
        CHECKS.refused("points 0", ARGUMENT, TiersAndEarningTest::topped, x -> x.leastCents(0, 0, 0));
        CHECKS.refused("points least", ARGUMENT, TiersAndEarningTest::topped,
                x -> x.leastCents(0, 0, Integer.MIN_VALUE));
    }

    private static void promise40PurchaseCount() {
        PointsLedger l = ladder();
        CHECKS.equal("no purchases", l.purchaseCount(), 0);
        for (int i = 1; i <= 45; i++) {
            l.purchase(i % 2, 0, 10);
            CHECKS.equal("purchases", l.purchaseCount(), i);
        }
        l.refund(44);
        CHECKS.equal("refunded ones count", l.purchaseCount(), 45);
        l.undo();
        l.undo();
        CHECKS.equal("undone ones do not", l.purchaseCount(), 44);
    }

    private static PointsLedger shopped() {
        PointsLedger l = ladder();
        l.purchase(1, 0, 1239);
        l.advance(5);
        l.purchase(0, 1, 5000);
        l.refund(0);
        return l;
    }

    private static void promise41PurchasePart() {
        PointsLedger l = shopped();
        int[][] due = {{1, 0, 1239, 123, 123, 0, 1}, {0, 1, 5000, 30, 120, 5, 0}};
        for (int purchase = 0; purchase < 2; purchase++) {
            for (int what = 0; what <= 6; what++) {
                CHECKS.equal("part " + what + " of " + purchase, l.purchasePart(purchase, what),
                        due[purchase][what]);
            }
        }
        for (int i = 2; i <= 40; i++) {
            l.purchase(0, 0, i * 10);
        }
        CHECKS.same("not kept", Checks.outcome(l, x -> x.purchasePart(0, 0)), ELEMENT.getName());
        CHECKS.same("not kept first", Checks.outcome(l, x -> x.purchasePart(0, 7)), ELEMENT.getName());
        CHECKS.equal("the oldest kept", l.purchasePart(1, 2), 5000);
        CHECKS.equal("the latest", l.purchasePart(40, 2), 400);
        l.undo();
        CHECKS.equal("kept again", l.purchasePart(0, 2), 1239);
        l.refund(39);
        l.undo();
        l.undo();
        CHECKS.same("undone", Checks.outcome(l, x -> x.purchasePart(39, 6)), ELEMENT.getName());
        l.refund(38);
        l.undo();
        l.undo();
        l.purchase(0, 0, 50);
        CHECKS.equal("a new one in its place", l.purchasePart(38, 6), 0);
        CHECKS.refused("purchase -1", ELEMENT, TiersAndEarningTest::shopped,
                x -> x.purchasePart(-1, 0));
        CHECKS.refused("purchase 2", ELEMENT, TiersAndEarningTest::shopped,
                x -> x.purchasePart(2, 0));
        CHECKS.refused("purchase first", ELEMENT, TiersAndEarningTest::shopped,
                x -> x.purchasePart(2, 7));
        CHECKS.refused("purchase part -1", ARGUMENT, TiersAndEarningTest::shopped,
                x -> x.purchasePart(0, -1));
        CHECKS.refused("purchase part 7", ARGUMENT, TiersAndEarningTest::shopped,
                x -> x.purchasePart(0, 7));
    }
}
