import java.util.NoSuchElementException;

/**
 * Each sentence of part 3 of "Terms" about tiers, and of the promises 31 to 36 and 48, that
 * names a boundary case.
 */
public final class TierBoundsTest {
    private static final Checks CHECKS = new Checks();
    private static final Class<?> ELEMENT = NoSuchElementException.class;

    public static void main(String[] args) {
        tiersOfTheSecondMember();
        windowFirstDay();
        windowLastDay();
        windowOfWhatIsNotKept();
        qualifyingWithoutRefunds();
        qualifyingOfOneself();
        earnedAtTheThreshold();
        earnedAmongFive();
        tierZeroAtFirst();
        checkedAfterPurchase();
        checkedAfterRefund();
        checkedOnANewDay();
        othersAreNotChecked();
        earnedIsNotLess();
        belowSinceStays();
        graceIsOver();
        graceOfNoDay();
        graceOfOneDay();
        fallsToTheEarnedTier();
        belowOnceMore();
        belowSinceRefund();
        belowSinceDayZero();
        toNextTierLeast();
        toNextTierBehindTheEarned();
        tierAfterNoDays();
        tierAfterTheGrace();
        tierAfterMostDays();
        tierAfterIsAsItComes();
        tierAfterInALongWindow();
        rankByTier();
        rankByBalance();
        rankByName();
        rankFirstAndLast();
        CHECKS.finish("TierBoundsTest");
    }

    /** Tiers from 0, 100, 200; ten percent; window 4, grace 3. */
    private static PointsLedger ladder(String more) {
        return Checks.loaded("tier a 0 0;tier b 100 0;tier c 200 0;category k 10 0;"
                + "member ann;member bob" + more);
    }

    private static PointsLedger ladder() {
        return ladder(";window 4;grace 3");
    }

    /** Tier, earned tier, qualifying sum, the day since which ann is below. */
    private static void standing(String what, PointsLedger l, int... due) {
        CHECKS.equal(what + ": tier", l.tier(0), due[0]);
        CHECKS.equal(what + ": earned tier", l.earnedTier(0), due[1]);
        CHECKS.equal(what + ": qualifying sum", l.qualifying(0), due[2]);
        CHECKS.equal(what + ": below since", l.belowSince(0), due[3]);
    }

    /** "of a member": ann is on the lowest tier, and bob is not. */
    private static void tiersOfTheSecondMember() {
        PointsLedger l = ladder();
        l.purchase(1, 0, 1500);
        l.purchase(0, 0, 300);
        CHECKS.equal("bob's tier", l.tier(1), 1);
        CHECKS.equal("bob's earned tier", l.earnedTier(1), 1);
        CHECKS.equal("bob's qualifying sum", l.qualifying(1), 150);
        CHECKS.equal("bob to the next tier", l.toNextTier(1), 50);
        CHECKS.equal("bob now", l.tierAfter(1, 0), 1);
        CHECKS.equal("bob in 6 days", l.tierAfter(1, 6), 1);
        CHECKS.equal("bob in 7 days", l.tierAfter(1, 7), 0);
        standing("ann", l, 0, 0, 30, PointsLedger.NONE);
        l.advance(5);
        CHECKS.equal("bob is below", l.belowSince(1), 4);
        CHECKS.equal("bob in 1 day", l.tierAfter(1, 1), 1);
        CHECKS.equal("bob in 2 days", l.tierAfter(1, 2), 0);
        CHECKS.equal("ann in 2 days", l.tierAfter(0, 2), 0);
        standing("ann", l, 0, 0, 0, PointsLedger.NONE);
        l.purchase(0, 0, 2000);
        CHECKS.equal("ann rises, bob falls", l.tierAfter(1, 2), 0);
        CHECKS.equal("ann rises and stays", l.tierAfter(0, 2), 2);
    }

    /** "on the days from (present day - window + 1)": 4 days on which day 2 counts. */
    private static void windowFirstDay() {
        PointsLedger l = ladder();
        l.advance(1);
        l.purchase(0, 0, 100);
        l.advance(1);
        l.purchase(0, 0, 1000);
        l.advance(2);
        CHECKS.equal("day 4: days 1 to 4", l.qualifying(0), 110);
        l.advance(1);
        CHECKS.equal("day 5: days 2 to 5", l.qualifying(0), 100);
        l.advance(1);
        CHECKS.equal("day 6: days 3 to 6", l.qualifying(0), 0);
        PointsLedger jump = ladder();
        jump.purchase(0, 0, 1000);
        jump.advance(3);
        CHECKS.equal("day 3: days 0 to 3", jump.qualifying(0), 100);
        jump.advance(1);
        CHECKS.equal("day 4: days 1 to 4, at once", jump.qualifying(0), 0);
    }

    /** "to the present day" */
    private static void windowLastDay() {
        PointsLedger l = ladder();
        l.purchase(0, 0, 300);
        CHECKS.equal("a purchase on day 0", l.qualifying(0), 30);
        l.advance(2);
        l.purchase(0, 0, 400);
        CHECKS.equal("a purchase on the present day", l.qualifying(0), 70);
        PointsLedger day = ladder(";window 1");
        day.purchase(0, 0, 300);
        day.purchase(0, 0, 300);
        CHECKS.equal("a window of one day", day.qualifying(0), 60);
        day.advance(1);
        day.purchase(0, 0, 400);
        CHECKS.equal("the next day alone", day.qualifying(0), 40);
    }

    /** "of the bases of all purchases": also of those that are not among the latest 40. */
    private static void windowOfWhatIsNotKept() {
        PointsLedger l = ladder();
        for (int i = 0; i < 50; i++) {
            l.purchase(0, 0, 20);
        }
        l.advance(1);
        for (int i = 0; i < 41; i++) {
            l.purchase(1, 0, 20);
        }
        standing("50 purchases that are not kept", l, 1, 1, 100, PointsLedger.NONE);
        CHECKS.equal("they are in the window till day 3", l.tierAfter(0, 5), 1);
        CHECKS.equal("and till day 6 in the grace", l.tierAfter(0, 6), 0);
        l.advance(2);
        CHECKS.equal("on day 3", l.qualifying(0), 100);
        CHECKS.equal("bob's on day 3", l.qualifying(1), 82);
        l.advance(1);
        standing("on day 4", l, 1, 0, 0, 4);
        CHECKS.equal("bob's on day 4", l.qualifying(1), 82);
        l.advance(1);
        CHECKS.equal("bob's on day 5", l.qualifying(1), 0);
    }

    /** "without refunded ones" */
    private static void qualifyingWithoutRefunds() {
        PointsLedger l = ladder();
        l.purchase(0, 0, 300);
        l.purchase(0, 0, 400);
        l.refund(0);
        CHECKS.equal("without the first", l.qualifying(0), 40);
        l.advance(4);
        CHECKS.equal("the second has gone", l.qualifying(0), 0);
        l.refund(1);
        CHECKS.equal("a refund behind the window", l.qualifying(0), 0);
        PointsLedger edge = ladder();
        edge.purchase(0, 0, 300);
        edge.advance(3);
        edge.refund(0);
        CHECKS.equal("a refund on the window's last day", edge.qualifying(0), 0);
        edge.advance(1);
        CHECKS.equal("and on the day after", edge.qualifying(0), 0);
    }

    /** "by the member" */
    private static void qualifyingOfOneself() {
        PointsLedger l = ladder();
        l.purchase(1, 0, 300);
        CHECKS.equal("of the other", l.qualifying(0), 0);
        CHECKS.equal("of bob", l.qualifying(1), 30);
        l.transfer(1, 0, 30);
        CHECKS.equal("points that are given do not qualify", l.qualifying(0), 0);
        CHECKS.equal("where they were bought they do", l.qualifying(1), 30);
    }

    /** "the greatest tier whose threshold is not greater than the qualifying sum" */
    private static void earnedAtTheThreshold() {
        int[][] due = {{0, 0}, {99, 0}, {100, 1}, {101, 1}, {199, 1}, {200, 2}, {201, 2}, {9999, 2}};
        for (int[] row : due) {
            PointsLedger l = ladder();
            l.purchase(0, 0, Math.max(1, 10 * row[0]));
            CHECKS.equal("earned with " + row[0], l.earnedTier(0), row[1]);
            CHECKS.equal("risen with " + row[0], l.tier(0), row[1]);
        }
    }

    private static void earnedAmongFive() {
        int[][] due = {{0, 0}, {1, 1}, {2, 2}, {3, 2}, {9999, 3}, {49999, 3}, {50000, 4}};
        for (int[] row : due) {
            PointsLedger l = Checks.loaded("tier a 0 0;tier b 1 0;tier c 2 0;tier d 4 0;"
                    + "tier e 50000 0;category k 50 0;member m");
            l.purchase(0, 0, Math.max(1, 2 * row[0]));
            CHECKS.equal("earned of five with " + row[0], l.earnedTier(0), row[1]);
        }
        PointsLedger far = Checks.loaded("tier a 0 0;tier b 1000000 0;category k 50 0;member m");
        for (int i = 1; i <= 20; i++) {
            CHECKS.equal("before purchase " + i, far.tier(0), 0);
            far.purchase(0, 0, 100000);
        }
        CHECKS.equal("the greatest threshold is reached", far.tier(0), 1);
    }

    /** "The present tier of a member is 0 at first." */
    private static void tierZeroAtFirst() {
        standing("at first", ladder(), 0, 0, 0, PointsLedger.NONE);
        CHECKS.equal("bob at first", ladder().tier(1), 0);
    }

    /** "It is checked after each purchase" */
    private static void checkedAfterPurchase() {
        PointsLedger l = ladder();
        l.purchase(0, 0, 1000);
        standing("a purchase", l, 1, 1, 100, PointsLedger.NONE);
        CHECKS.logged("the change is behind the purchase", l, 0, 6, 0, 0, 1);
        CHECKS.logged("the purchase", l, 1, 0, 0, 0, 100);
        l.purchase(0, 0, 10);
        CHECKS.equal("no change, no entry", l.logSize(), 3);
        l.purchase(0, 0, 990);
        standing("another one", l, 2, 2, 200, PointsLedger.NONE);
        CHECKS.logged("the next change", l, 0, 6, 0, 0, 2);
    }

    /** "and refund" */
    private static void checkedAfterRefund() {
        PointsLedger l = ladder(";grace 0");
        l.purchase(0, 0, 1000);
        l.purchase(0, 0, 1000);
        l.refund(0);
        standing("a refund", l, 1, 1, 100, PointsLedger.NONE);
        CHECKS.logged("the change is behind the refund", l, 0, 6, 0, 0, 1);
        CHECKS.logged("the refund", l, 1, 1, 0, 0, 100);
        l.refund(1);
        standing("another refund", l, 0, 0, 0, PointsLedger.NONE);
    }

    /** "and on each new day" */
    private static void checkedOnANewDay() {
        PointsLedger l = ladder(";window 4;grace 0");
        l.purchase(0, 0, 1000);
        l.advance(3);
        standing("the last day", l, 1, 1, 100, PointsLedger.NONE);
        l.advance(1);
        standing("the new day", l, 0, 0, 0, PointsLedger.NONE);
        CHECKS.logged("the change of the day", l, 0, 6, 4, 0, 0);
        PointsLedger many = ladder();
        many.purchase(0, 0, 1000);
        many.advance(400);
        standing("many days", many, 0, 0, 0, PointsLedger.NONE);
        CHECKS.logged("on its own day", many, 1, 6, 7, 0, 0);
        CHECKS.logged("before the expiry", many, 0, 4, 365, 0, 100);
    }

    /** "of this member" */
    private static void othersAreNotChecked() {
        PointsLedger l = ladder();
        l.purchase(0, 0, 1000);
        l.purchase(1, 0, 2000);
        l.refund(0);
        standing("ann", l, 1, 0, 0, 0);
        CHECKS.equal("bob's tier", l.tier(1), 2);
        CHECKS.equal("bob is not below", l.belowSince(1), PointsLedger.NONE);
        CHECKS.logged("no entry for bob", l, 1, 6, 0, 1, 2);
        CHECKS.logged("but for the refund", l, 0, 1, 0, 0, 100);
    }

    /** "if the earned tier is not less than the present tier, .. the member is not below" */
    private static void earnedIsNotLess() {
        PointsLedger l = ladder();
        l.purchase(0, 0, 1000);
        l.advance(5);
        standing("below", l, 1, 0, 0, 4);
        l.purchase(0, 0, 990);
        standing("one too few", l, 1, 0, 99, 4);
        l.purchase(0, 0, 10);
        standing("just the present tier", l, 1, 1, 100, PointsLedger.NONE);
        l.advance(3);
        standing("days behind it", l, 1, 1, 100, PointsLedger.NONE);
        l = ladder();
        l.purchase(0, 0, 1000);
        l.advance(5);
        l.purchase(0, 0, 2000);
        standing("more than the present tier", l, 2, 2, 200, PointsLedger.NONE);
    }

    /** "if the member is not below, the member is below since the present day" */
    private static void belowSinceStays() {
        PointsLedger l = ladder(";window 4;grace 9");
        l.purchase(0, 0, 1000);
        l.advance(1);
        l.purchase(0, 0, 1000);
        standing("top", l, 2, 2, 200, PointsLedger.NONE);
        l.advance(3);
        standing("less", l, 2, 1, 100, 4);
        l.advance(1);
        standing("even less", l, 2, 0, 0, 4);
        l.purchase(0, 0, 1000);
        standing("more, but not enough", l, 2, 1, 100, 4);
        l.refund(2);
        standing("a refund while below", l, 2, 0, 0, 4);
    }

    /** "if the present day minus the day since which the member is below is at least the grace" */
    private static void graceIsOver() {
        PointsLedger l = ladder();
        l.purchase(0, 0, 1000);
        l.advance(4);
        standing("since day 4", l, 1, 0, 0, 4);
        l.advance(1);
        standing("a day", l, 1, 0, 0, 4);
        l.advance(1);
        standing("two days", l, 1, 0, 0, 4);
        l.advance(1);
        standing("three days", l, 0, 0, 0, PointsLedger.NONE);
        CHECKS.logged("the change", l, 0, 6, 7, 0, 0);
        PointsLedger most = ladder(";window 1;grace 400");
        most.purchase(0, 0, 1000);
        most.advance(1);
        most.advance(399);
        standing("399 of 400 days", most, 1, 0, 0, 1);
        most.advance(1);
        standing("400 days", most, 0, 0, 0, PointsLedger.NONE);
    }

    private static void graceOfNoDay() {
        PointsLedger l = ladder(";window 4;grace 0");
        l.purchase(0, 0, 1000);
        l.refund(0);
        standing("on the same day", l, 0, 0, 0, PointsLedger.NONE);
    }

    private static void graceOfOneDay() {
        PointsLedger l = ladder(";window 4;grace 1");
        l.purchase(0, 0, 1000);
        l.refund(0);
        standing("not on the same day", l, 1, 0, 0, 0);
        l.advance(1);
        standing("on the next day", l, 0, 0, 0, PointsLedger.NONE);
    }

    /** "the present tier becomes the earned tier" */
    private static void fallsToTheEarnedTier() {
        PointsLedger l = ladder();
        l.purchase(0, 0, 2000);
        l.advance(2);
        l.purchase(0, 0, 1990);
        l.advance(5);
        standing("from the second to the lowest", l, 0, 0, 0, PointsLedger.NONE);
        CHECKS.logged("at once", l, 0, 6, 7, 0, 0);
        l = ladder();
        l.purchase(0, 0, 2000);
        l.advance(4);
        l.purchase(0, 0, 1000);
        l.advance(2);
        standing("still the second", l, 2, 1, 100, 4);
        l.advance(1);
        standing("to the first", l, 1, 1, 100, PointsLedger.NONE);
        CHECKS.logged("to the first", l, 0, 6, 7, 0, 1);
    }

    /** Having fallen, the member is not below, and then is since a new day. */
    private static void belowOnceMore() {
        PointsLedger l = ladder();
        l.purchase(0, 0, 2000);
        l.advance(4);
        l.purchase(0, 0, 1000);
        l.advance(3);
        standing("on the first", l, 1, 1, 100, PointsLedger.NONE);
        l.advance(1);
        standing("below once more", l, 1, 0, 0, 8);
        l.advance(2);
        standing("still", l, 1, 0, 0, 8);
        l.advance(1);
        standing("down", l, 0, 0, 0, PointsLedger.NONE);
    }

    private static void belowSinceRefund() {
        PointsLedger l = ladder();
        l.purchase(0, 0, 1000);
        l.advance(1);
        l.refund(0);
        standing("below since the refund", l, 1, 0, 0, 1);
        l.advance(2);
        standing("two days behind it", l, 1, 0, 0, 1);
        l.advance(1);
        standing("three days behind it", l, 0, 0, 0, PointsLedger.NONE);
    }

    /** Promise 34: day 0 is a day, and not NONE. */
    private static void belowSinceDayZero() {
        PointsLedger l = ladder();
        l.purchase(0, 0, 1000);
        l.refund(0);
        standing("below since day 0", l, 1, 0, 0, 0);
        l.advance(2);
        standing("below since day 0 still", l, 1, 0, 0, 0);
        l.advance(1);
        standing("down", l, 0, 0, 0, PointsLedger.NONE);
    }

    /** Promise 35: "Returns the number, 1 or more.", "if the earned tier is the last one" */
    private static void toNextTierLeast() {
        int[][] due = {{0, 100}, {1, 99}, {99, 1}, {100, 100}, {101, 99}, {199, 1}};
        for (int[] row : due) {
            PointsLedger l = ladder();
            l.purchase(0, 0, Math.max(1, 10 * row[0]));
            CHECKS.equal("to the next tier with " + row[0], l.toNextTier(0), row[1]);
        }
        for (int sum : new int[] {200, 201}) {
            CHECKS.refused("behind the last with " + sum, ELEMENT, () -> earned(sum),
                    l -> l.toNextTier(0));
        }
        CHECKS.equal("of the other", earned(200).toNextTier(1), 100);
        CHECKS.refused("behind the only one", ELEMENT, () -> Checks.loaded("member m"),
                l -> l.toNextTier(0));
        PointsLedger far = Checks.loaded("tier a 0 0;tier b 1000000 0;member m");
        CHECKS.equal("the most that can be lacking", far.toNextTier(0), 1000000);
    }

    private static PointsLedger earned(int sum) {
        PointsLedger l = ladder();
        l.purchase(0, 0, 10 * sum);
        return l;
    }

    /** "the tier behind the earned tier", not behind the present one */
    private static void toNextTierBehindTheEarned() {
        PointsLedger l = earned(200);
        l.advance(4);
        standing("the last tier, but nothing earned", l, 2, 0, 0, 4);
        CHECKS.equal("behind the earned one", l.toNextTier(0), 100);
        l.purchase(0, 0, 1500);
        CHECKS.equal("behind the earned one, again", l.toNextTier(0), 50);
    }

    /** Promise 36: "days: 0 to 2000": 0 days change nothing. */
    private static void tierAfterNoDays() {
        CHECKS.equal("at once", earned(200).tierAfter(0, 0), 2);
        PointsLedger l = earned(200);
        l.advance(6);
        CHECKS.equal("on the last day below", l.tierAfter(0, 0), 2);
        CHECKS.equal("on the next day", l.tierAfter(0, 1), 0);
        CHECKS.equal("of the other", l.tierAfter(1, 1), 0);
    }

    private static void tierAfterTheGrace() {
        PointsLedger l = earned(200);
        CHECKS.equal("below since day 4, on day 6", l.tierAfter(0, 6), 2);
        CHECKS.equal("below since day 4, on day 7", l.tierAfter(0, 7), 0);
        PointsLedger none = ladder(";window 4;grace 0");
        none.purchase(0, 0, 2000);
        CHECKS.equal("no grace, on day 3", none.tierAfter(0, 3), 2);
        CHECKS.equal("no grace, on day 4", none.tierAfter(0, 4), 0);
        PointsLedger two = earned(100);
        two.advance(2);
        two.purchase(0, 0, 1000);
        CHECKS.equal("two falls, on day 6", two.tierAfter(0, 4), 2);
        CHECKS.equal("two falls, on day 7: nothing is earned", two.tierAfter(0, 5), 0);
        PointsLedger slow = earned(100);
        slow.advance(3);
        slow.purchase(0, 0, 1000);
        CHECKS.equal("below since day 4, earned 0 on day 7", slow.tierAfter(0, 4), 0);
        PointsLedger later = earned(100);
        later.advance(3);
        later.purchase(0, 0, 1000);
        later.advance(1);
        later.purchase(0, 0, 10);
        CHECKS.equal("below since day 4", later.belowSince(0), 4);
        CHECKS.equal("earned 0 on day 7", later.tierAfter(0, 3), 0);
    }

    /** "0 to 2000 (also beyond day 9999)" */
    private static void tierAfterMostDays() {
        PointsLedger l = ladder(";window 1000;grace 400");
        for (int i = 0; i < 24; i++) {
            l.advance(400);
        }
        l.advance(399);
        l.purchase(0, 0, 2000);
        CHECKS.equal("day 9999", l.today(), 9999);
        CHECKS.equal("day 11398", l.tierAfter(0, 1399), 2);
        CHECKS.equal("day 11399", l.tierAfter(0, 1400), 0);
        CHECKS.equal("day 11999", l.tierAfter(0, 2000), 0);
        PointsLedger first = ladder(";window 1000;grace 400");
        first.purchase(0, 0, 2000);
        CHECKS.equal("after 1399 days", first.tierAfter(0, 1399), 2);
        CHECKS.equal("after 1400 days", first.tierAfter(0, 1400), 0);
        CHECKS.equal("after 2000 days", first.tierAfter(0, 2000), 0);
        CHECKS.equal("nothing has changed", first.tier(0), 2);
    }

    /** For each number of days: what is said before is what comes. */
    private static void tierAfterIsAsItComes() {
        for (int days = 1; days <= 16; days++) {
            PointsLedger l = earned(150);
            l.advance(2);
            l.purchase(0, 0, 500);
            l.advance(1);
            l.purchase(0, 0, 1000);
            l.advance(1);
            l.purchase(0, 0, 600);
            int said = l.tierAfter(0, days);
            l.advance(days);
            CHECKS.equal("the tier after " + days, said, l.tier(0));
        }
    }

    /** What leaves the window is gone once: 150 of 250 stay from day 10 to day 14. */
    private static void tierAfterInALongWindow() {
        PointsLedger l = ladder(";window 10;grace 1");
        l.purchase(0, 0, 1000);
        l.advance(5);
        l.purchase(0, 0, 1500);
        int[] due = {2, 2, 2, 2, 2, 2, 1, 1, 1, 1, 1, 0, 0};
        for (int days = 0; days < due.length; days++) {
            CHECKS.equal("in a long window, after " + days, l.tierAfter(0, days), due[days]);
        }
        for (int days = 1; days < due.length; days++) {
            l.advance(1);
            CHECKS.equal("in a long window, on day " + l.today(), l.tier(0), due[days]);
        }
    }

    private static void order(String what, PointsLedger l, int... due) {
        for (int index = 0; index < due.length; index++) {
            CHECKS.equal(what + ": rank " + index, l.rankedMember(index), due[index]);
        }
    }

    private static PointsLedger ranked() {
        return Checks.loaded("tier a 0 0;tier b 100 0;tier c 200 0;category k 10 0;member zoe;"
                + "member annab;member ann;member anna;member bob;house h 100");
    }

    /** Promise 48: "by decreasing present tier" */
    private static void rankByTier() {
        PointsLedger l = ranked();
        l.purchase(4, 0, 990);
        l.purchase(0, 0, 1000);
        l.redeem(0, 100);
        order("a tier before points", l, 0, 4, 2, 3, 1);
        l.purchase(1, 0, 2000);
        l.redeem(1, 199);
        order("a higher tier", l, 1, 0, 4, 2, 3);
        PointsLedger below = ladder();
        below.purchase(1, 0, 1000);
        below.refund(0);
        order("the present tier, not the earned one", below, 1, 0);
    }

    /** "among equal ones by decreasing balance": of the account, without the pool. */
    private static void rankByBalance() {
        PointsLedger l = ranked();
        l.purchase(0, 0, 20);
        l.purchase(1, 0, 30);
        order("one point more", l, 1, 0, 2, 3, 4);
        l.purchase(0, 0, 10);
        order("as many", l, 1, 0, 2, 3, 4);
        l.purchase(0, 0, 10);
        order("one more than that", l, 0, 1, 2, 3, 4);
        l.join(4, 0);
        l.purchase(4, 0, 900);
        order("the pool does not count", l, 0, 1, 2, 3, 4);
        l.leave(4);
        order("the account does", l, 4, 0, 1, 2, 3);
    }

    /** "a name that is the beginning of a longer one comes first" */
    private static void rankByName() {
        order("names alone", ranked(), 2, 3, 1, 4, 0);
        order("the shortest and the longest", Checks.loaded("member zzzzzz;member z;member y;"
                + "member azzzzz;member a;member aa;member b"), 4, 5, 3, 6, 2, 1, 0);
        order("the last letter", Checks.loaded("member abcdef;member abcdee;member abcde"), 2, 1, 0);
        order("the order of the setup does not count", Checks.loaded("member c;member b;member a"),
                2, 1, 0);
    }

    /** "index: 0 for the first one, and so on" */
    private static void rankFirstAndLast() {
        PointsLedger l = Checks.loaded("member l;member k;member j;member i;member h;member g;"
                + "member f;member e;member d;member c;member b;member a");
        CHECKS.equal("the first of twelve", l.rankedMember(0), 11);
        CHECKS.equal("the last of twelve", l.rankedMember(11), 0);
        CHECKS.equal("the only one", Checks.loaded("member m").rankedMember(0), 0);
        for (int index : new int[] {-1, 5}) {
            CHECKS.refused("rank " + index, IndexOutOfBoundsException.class, TierBoundsTest::ranked,
                    x -> x.rankedMember(index));
        }
    }
}
