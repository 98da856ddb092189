import java.util.Arrays;

/** Each sentence of the parts 1 and 2 of "Terms" that names a boundary case. */
public final class TermsBoundsTest {
    private static final Checks CHECKS = new Checks();
    private static final Class<?> STATE = IllegalStateException.class;

    public static void main(String[] args) {
        daysFromZero();
        divisionOfTheBase();
        divisionOfThePoints();
        divisionOfTheShare();
        divisionOfThePart();
        divisionOfTheEstimate();
        promotionDays();
        promotionsOfOtherCategories();
        householdsHaveFourMembers();
        oneHouseholdAMember();
        nobodyBelongsToOneAtFirst();
        leastPeriods();
        greatestPeriods();
        cohortsHaveOnePoint();
        poolCohortsHaveOnePoint();
        accountInOrder();
        poolInOrder();
        pointsAreAdded();
        poolPointsAreAdded();
        takeFromTheFirst();
        takeFromThePoolInOrder();
        noDebtAtFirst();
        creditAPurchase();
        creditATransfer();
        creditOnLeaving();
        CHECKS.finish("TermsBoundsTest");
    }

    private static PointsLedger shop(String more) {
        return Checks.loaded("category food 10 0;category cent 1 0;member ann;member bob;"
                + "member cy" + more);
    }

    /** "Days are counted from 0; the present day is 0 at first." */
    private static void daysFromZero() {
        CHECKS.equal("the first day of a new object", new PointsLedger().today(), 0);
        PointsLedger l = shop("");
        CHECKS.equal("the first day of a setup", l.today(), 0);
        l.purchase(0, 0, 100);
        CHECKS.equal("a purchase on the first day", l.purchasePart(0, 5), 0);
        l.advance(1);
        CHECKS.equal("the second day", l.today(), 1);
    }

    /** "All divisions in this document round down": cents * rate / 100. */
    private static void divisionOfTheBase() {
        int[][] due = {{1, 0}, {99, 0}, {100, 1}, {199, 1}, {200, 2}};
        PointsLedger l = shop("");
        for (int i = 0; i < due.length; i++) {
            l.purchase(0, 1, due[i][0]);
            CHECKS.equal("the base of " + due[i][0], l.purchasePart(i, 3), due[i][1]);
        }
        CHECKS.equal("10 percent of 19", l.purchase(0, 0, 19), 1);
    }

    /** base * (100 + bonus + extras) / 100, where the base is a whole number already. */
    private static void divisionOfThePoints() {
        PointsLedger l = shop(";tier t 0 10");
        CHECKS.equal("9 and 10 percent", l.wouldEarn(0, 1, 900), 9);
        CHECKS.equal("10 and 10 percent", l.wouldEarn(0, 1, 1000), 11);
        CHECKS.equal("19 and 10 percent", l.wouldEarn(0, 1, 1900), 20);
        CHECKS.equal("the base is rounded before", l.wouldEarn(0, 0, 199), 20);
        l = shop(";tier t 0 4;promo cent 0 0 5");
        CHECKS.equal("bonus and extras together", l.wouldEarn(0, 1, 1100), 11);
        CHECKS.equal("bonus and extras are not rounded alone", l.wouldEarn(0, 1, 1200), 13);
    }

    /** points * share / 100 */
    private static void divisionOfTheShare() {
        int[][] due = {{1, 99, 0}, {2, 50, 1}, {3, 50, 1}, {3, 33, 0}, {3, 34, 1}, {100, 1, 1},
            {99, 1, 0}, {7, 100, 7}, {7, 0, 0}};
        for (int[] row : due) {
            PointsLedger l = shop(";house h " + row[1]);
            l.join(0, 0);
            l.purchase(0, 0, 10 * row[0]);
            CHECKS.equal(row[1] + " percent of " + row[0], l.poolBalance(0), row[2]);
            CHECKS.equal("the others of " + row[0], l.balance(0), row[0] - row[2]);
        }
    }

    /** (present day - (day of expiry - life)) * 10 / life */
    private static void divisionOfThePart() {
        int[][] due = {{3, 1, 3}, {3, 2, 6}, {7, 1, 1}, {7, 2, 2}, {7, 3, 4}, {7, 6, 8}, {11, 1, 0},
            {11, 2, 1}, {11, 10, 9}};
        for (int[] row : due) {
            PointsLedger l = shop(";life " + row[0]);
            l.purchase(0, 0, 100);
            l.advance(row[1]);
            l.redeem(0, 4);
            CHECKS.equal("day " + row[1] + " of " + row[0], l.redeemedWith(row[2]), 4);
        }
    }

    /** n * E / (E + R(k)) */
    private static void divisionOfTheEstimate() {
        PointsLedger l = shop(";life 1");
        l.purchase(0, 0, 10);
        l.advance(1);
        l.purchase(0, 0, 20);
        l.redeem(0, 2);
        l.purchase(0, 0, 20);
        CHECKS.equal("2 * 1 / 3", l.breakage(0), 0);
        l.purchase(0, 0, 10);
        CHECKS.equal("3 * 1 / 3", l.breakage(0), 1);
        l.purchase(0, 0, 20);
        CHECKS.equal("5 * 1 / 3", l.breakage(0), 1);
    }

    /** "A promotion is for a category and for the days FROM to TO" */
    private static void promotionDays() {
        PointsLedger l = shop(";promo food 3 5 100;promo cent 0 0 7;promo cent 9999 9999 8");
        int[][] due = {{2, 0}, {3, 100}, {4, 100}, {5, 100}, {6, 0}};
        for (int[] row : due) {
            CHECKS.equal("extras on day " + row[0], l.extras(0, row[0]), row[1]);
        }
        CHECKS.equal("only on the first day", l.extras(1, 0), 7);
        CHECKS.equal("not on the second", l.extras(1, 1), 0);
        CHECKS.equal("not on the last but one", l.extras(1, 9998), 0);
        CHECKS.equal("only on the last day", l.extras(1, 9999), 8);
        for (int[] row : due) {
            PointsLedger then = shop(";promo food 3 5 100");
            then.advance(row[0]);
            CHECKS.equal("earned on day " + row[0], then.purchase(0, 0, 100), 10 + row[1] / 10);
        }
    }

    /** "the sum of the extras of all promotions for the category that contain the present day" */
    private static void promotionsOfOtherCategories() {
        PointsLedger l = shop(";promo food 0 9 100;promo food 0 0 30;promo cent 0 9 500");
        CHECKS.equal("the sum of two", l.purchase(0, 0, 100), 23);
        CHECKS.equal("of another category", l.purchase(0, 1, 100), 6);
        CHECKS.equal("of no promotion", shop(";promo food 0 9 100").purchase(0, 1, 100), 1);
    }

    private static PointsLedger crowd() {
        PointsLedger l = Checks.loaded("member a;member b;member c;member d;member e;member f;"
                + "member g;member h;member i;member j;member k;member l;house v 1;house w 2;"
                + "house x 3;house y 4");
        for (int member = 0; member < 8; member++) {
            CHECKS.equal("members afterwards", l.join(member, 3 * (member / 4)), member % 4 + 1);
        }
        return l;
    }

    /** "at most 4 members" */
    private static void householdsHaveFourMembers() {
        CHECKS.equal("four members of the first household", crowd().members(0), 0x00f);
        CHECKS.equal("four members of the last household", crowd().members(3), 0x0f0);
        CHECKS.refused("a fifth member", STATE, TermsBoundsTest::crowd, l -> l.join(8, 0));
        CHECKS.refused("a fifth member of the last", STATE, TermsBoundsTest::crowd, l -> l.join(11, 3));
        PointsLedger l = crowd();
        CHECKS.equal("the last member in another", l.join(11, 2), 1);
        CHECKS.equal("bit 11", l.members(2), 0x800);
        l.leave(3);
        CHECKS.equal("a fourth one again", l.join(9, 0), 4);
        CHECKS.equal("three and another", l.members(0), 0x207);
    }

    /** "a member belongs to at most one household" */
    private static void oneHouseholdAMember() {
        CHECKS.refused("a second household", STATE, TermsBoundsTest::crowd, l -> l.join(0, 1));
        CHECKS.refused("the same household", STATE, TermsBoundsTest::loner, l -> l.join(8, 1));
        PointsLedger l = loner();
        l.leave(8);
        CHECKS.equal("another one behind it", l.join(8, 2), 1);
        CHECKS.equal("is the only one", l.members(1), 0);
    }

    private static PointsLedger loner() {
        PointsLedger l = crowd();
        l.join(8, 1);
        return l;
    }

    /** "at first nobody belongs to one" */
    private static void nobodyBelongsToOneAtFirst() {
        PointsLedger l = Checks.loaded("member a;member b;member c;member d;member e;member f;"
                + "member g;member h;member i;member j;member k;member l;house v 1;house w 2");
        for (int member = 0; member < 12; member++) {
            CHECKS.equal("the household of " + member, l.household(member), PointsLedger.NONE);
        }
        CHECKS.equal("members of the first", l.members(0), 0);
        CHECKS.equal("members of the second", l.members(1), 0);
    }

    /** Life 1, window 1, grace 0. */
    private static void leastPeriods() {
        PointsLedger l = shop(";tier a 0 0;tier b 10 0;life 1;window 1;grace 0");
        l.purchase(0, 0, 100);
        CHECKS.equal("points on their day", l.balance(0), 10);
        CHECKS.equal("their day of expiry", l.cohort(0, 0, 1), 1);
        CHECKS.equal("the tier on its day", l.tier(0), 1);
        CHECKS.equal("a life of a day", l.advance(1), 10);
        CHECKS.equal("a window of a day", l.qualifying(0), 0);
        CHECKS.equal("no grace", l.tier(0), 0);
        CHECKS.equal("no grace: not below", l.belowSince(0), PointsLedger.NONE);
    }

    /** Life 1000, window 1000, grace 400. */
    private static void greatestPeriods() {
        PointsLedger l = shop(";tier a 0 0;tier b 10 0;life 1000;window 1000;grace 400");
        l.purchase(0, 0, 100);
        l.advance(400);
        l.advance(400);
        CHECKS.equal("day 999", l.advance(199), 0);
        CHECKS.equal("points on day 999", l.balance(0), 10);
        CHECKS.equal("in the window on day 999", l.qualifying(0), 10);
        CHECKS.equal("not below on day 999", l.belowSince(0), PointsLedger.NONE);
        CHECKS.equal("day 1000", l.advance(1), 10);
        CHECKS.equal("not in the window on day 1000", l.qualifying(0), 0);
        CHECKS.equal("below since day 1000", l.belowSince(0), 1000);
        l.advance(399);
        CHECKS.equal("the tier on day 1399", l.tier(0), 1);
        l.advance(1);
        CHECKS.equal("the tier on day 1400", l.tier(0), 0);
    }

    /** "A cohort has a number of points (1 or more)" */
    private static void cohortsHaveOnePoint() {
        PointsLedger l = shop("");
        l.purchase(0, 0, 9);
        CHECKS.account("no point", l, 0);
        l.purchase(0, 0, 10);
        CHECKS.account("one point", l, 0, 1, 365);
        l.transfer(0, 1, 1);
        CHECKS.account("the only point was taken", l, 0);
        CHECKS.account("the only point was put", l, 1, 1, 365);
        l.redeem(1, 1);
        CHECKS.account("the only point was redeemed", l, 1);
        l.purchase(0, 0, 20);
        l.redeem(0, 1);
        CHECKS.account("one point of two", l, 0, 1, 365);
        l.redeem(0, 1);
        CHECKS.account("the other one too", l, 0);
    }

    private static void poolCohortsHaveOnePoint() {
        PointsLedger l = shop(";house h 50");
        l.join(0, 0);
        l.purchase(0, 0, 10);
        CHECKS.pool("half a point", l, 0);
        CHECKS.account("the whole point", l, 0, 1, 365);
        l.purchase(0, 0, 20);
        CHECKS.pool("one point", l, 0, 1, 365, 0);
        l.redeem(0, 3);
        CHECKS.pool("no point", l, 0);
        l.setShare(0, 100);
        l.purchase(0, 0, 10);
        CHECKS.account("no point beside the pool", l, 0);
        CHECKS.pool("one point again", l, 0, 1, 365, 0);
    }

    /** "a list of cohorts with different days of expiry, in the order of these days" */
    private static void accountInOrder() {
        PointsLedger l = shop(";life 50");
        for (int day = 0; day < 5; day++) {
            l.purchase(day % 2, 0, 100 + 10 * day);
            l.advance(1);
        }
        CHECKS.account("every other day", l, 0, 10, 50, 12, 52, 14, 54);
        CHECKS.account("the days between", l, 1, 11, 51, 13, 53);
        l.transfer(1, 0, 24);
        CHECKS.account("put between them", l, 0, 10, 50, 11, 51, 12, 52, 13, 53, 14, 54);
        l.transfer(0, 1, 34);
        CHECKS.account("the last ones are left", l, 0, 12, 53, 14, 54);
        CHECKS.account("the first ones have gone", l, 1, 10, 50, 11, 51, 12, 52, 1, 53);
        l.transfer(1, 0, 5);
        CHECKS.account("put in front", l, 0, 5, 50, 12, 53, 14, 54);
        l.transfer(0, 2, 18);
        l.transfer(0, 2, 13);
        CHECKS.account("put behind", l, 2, 5, 50, 12, 53, 14, 54);
    }

    /** "in the order of the days of expiry, then of the contributors" */
    private static void poolInOrder() {
        PointsLedger l = shop(";house h 100;life 50");
        for (int member : new int[] {2, 0, 1}) {
            l.join(member, 0);
            l.purchase(member, 0, 100 + 10 * member);
        }
        CHECKS.pool("on one day", l, 0, 10, 50, 0, 11, 50, 1, 12, 50, 2);
        l.advance(1);
        l.purchase(1, 0, 50);
        l.purchase(0, 0, 40);
        CHECKS.pool("the day before the contributor", l, 0,
                10, 50, 0, 11, 50, 1, 12, 50, 2, 4, 51, 0, 5, 51, 1);
    }

    /** "added to the cohort with the same day of expiry .., otherwise they are a new cohort" */
    private static void pointsAreAdded() {
        PointsLedger l = shop(";life 50");
        l.purchase(0, 0, 100);
        l.purchase(0, 0, 70);
        CHECKS.account("the same day", l, 0, 17, 50);
        l.advance(1);
        l.purchase(0, 0, 20);
        CHECKS.account("a day later", l, 0, 17, 50, 2, 51);
        l.purchase(1, 0, 30);
        l.transfer(1, 0, 3);
        CHECKS.account("transferred to the same day", l, 0, 17, 50, 5, 51);
        l.purchase(0, 0, 10);
        CHECKS.account("to the last cohort", l, 0, 17, 50, 6, 51);
        l.transfer(0, 1, 3);
        l.transfer(1, 0, 3);
        CHECKS.account("to the first cohort", l, 0, 17, 50, 6, 51);
    }

    /** "with the same day of expiry (and contributor)" */
    private static void poolPointsAreAdded() {
        PointsLedger l = shop(";house h 100;life 50");
        l.join(0, 0);
        l.join(1, 0);
        l.purchase(0, 0, 100);
        l.purchase(0, 0, 70);
        CHECKS.pool("the same day and contributor", l, 0, 17, 50, 0);
        l.purchase(1, 0, 20);
        CHECKS.pool("another contributor", l, 0, 17, 50, 0, 2, 50, 1);
        l.advance(1);
        l.purchase(0, 0, 30);
        CHECKS.pool("another day", l, 0, 17, 50, 0, 2, 50, 1, 3, 51, 0);
        l.purchase(0, 0, 10);
        CHECKS.pool("that day once more", l, 0, 17, 50, 0, 2, 50, 1, 4, 51, 0);
        l.leave(0);
        l.setShare(0, 0);
        l.join(0, 0);
        l.purchase(0, 0, 50);
        CHECKS.account("what left is in the account", l, 0, 17, 50, 9, 51);
        CHECKS.pool("and no more in the pool", l, 0, 2, 50, 1);
    }

    private static PointsLedger threeCohorts() {
        PointsLedger l = shop(";life 50");
        for (int day = 0; day < 3; day++) {
            l.purchase(0, 0, 100);
            l.advance(1);
        }
        return l;
    }

    /** "to take them from the first cohorts in order, as many as there are in each" */
    private static void takeFromTheFirst() {
        int[][] due = {{9, 1, 50, 10, 51, 10, 52}, {10, 10, 51, 10, 52}, {11, 9, 51, 10, 52},
            {19, 1, 51, 10, 52}, {20, 10, 52}, {21, 9, 52}, {29, 1, 52}, {30}};
        for (int[] row : due) {
            int[] left = Arrays.copyOfRange(row, 1, row.length);
            PointsLedger l = threeCohorts();
            l.redeem(0, row[0]);
            CHECKS.account("redeemed " + row[0], l, 0, left);
            l = threeCohorts();
            l.transfer(0, 1, row[0]);
            CHECKS.account("given " + row[0], l, 0, left);
            CHECKS.equal("received " + row[0], l.balance(1), row[0]);
        }
    }

    private static void takeFromThePoolInOrder() {
        int[][] due = {{19, 1, 50, 1, 10, 51, 0, 10, 51, 1}, {20, 10, 51, 0, 10, 51, 1},
            {21, 9, 51, 0, 10, 51, 1}, {30, 10, 51, 1}, {39, 1, 51, 1}, {40}};
        for (int[] row : due) {
            PointsLedger l = shop(";house h 100;life 50");
            l.join(0, 0);
            l.join(1, 0);
            l.join(2, 0);
            for (int day = 0; day < 2; day++) {
                l.purchase(0, 0, 100);
                l.purchase(1, 0, 100);
                l.advance(1);
            }
            CHECKS.equal("all of them are of the pool", l.redeem(2, row[0]), row[0]);
            CHECKS.pool("redeemed from the pool " + row[0], l, 0,
                    Arrays.copyOfRange(row, 1, row.length));
        }
    }

    /** "A member also has a debt (0 at first)." */
    private static void noDebtAtFirst() {
        PointsLedger l = shop("");
        for (int member = 0; member < 3; member++) {
            CHECKS.equal("the first debt of " + member, l.debt(member), 0);
        }
        CHECKS.equal("all debts at first", l.total(6), 0);
    }

    /** Ann owes ten points. */
    private static PointsLedger indebted() {
        PointsLedger l = shop(";house h 100;life 50");
        l.purchase(0, 0, 100);
        l.redeem(0, 10);
        l.refund(0);
        return l;
    }

    /** "the debt decreases by them as far as possible .. the rest is put into the account" */
    private static void creditAPurchase() {
        int[][] due = {{9, 1, 9, 0}, {10, 0, 10, 0}, {11, 0, 10, 1}};
        for (int[] row : due) {
            PointsLedger l = indebted();
            CHECKS.equal("all points count", l.purchase(0, 0, 10 * row[0]), row[0]);
            credited("a purchase of " + row[0], l, row);
            CHECKS.equal("the log has all " + row[0], l.log(0, 3), row[0]);
        }
    }

    private static void credited(String what, PointsLedger l, int[] row) {
        CHECKS.equal(what + ": debt", l.debt(0), row[1]);
        CHECKS.equal(what + ": settled", l.total(4), row[2]);
        CHECKS.equal(what + ": balance", l.balance(0), row[3]);
        CHECKS.equal(what + ": cohorts", l.cohortCount(0), row[3] > 0 ? 1 : 0);
        CHECKS.equal(what + ": debts", l.total(6), row[1]);
    }

    private static void creditATransfer() {
        int[][] due = {{9, 1, 9, 0}, {10, 0, 10, 0}, {11, 0, 10, 1}};
        for (int[] row : due) {
            PointsLedger l = indebted();
            l.purchase(1, 0, 50);
            l.advance(1);
            l.purchase(1, 0, 100);
            CHECKS.equal("settled of " + row[0], l.transfer(1, 0, row[0]), row[2]);
            credited("a transfer of " + row[0], l, row);
        }
        PointsLedger l = indebted();
        l.purchase(1, 0, 120);
        l.advance(1);
        l.purchase(1, 0, 100);
        l.transfer(1, 0, 15);
        CHECKS.account("the first cohort settles", l, 0, 2, 50, 3, 51);
    }

    private static void creditOnLeaving() {
        int[][] due = {{9, 1, 9, 0}, {10, 0, 10, 0}, {11, 0, 10, 1}};
        for (int[] row : due) {
            PointsLedger l = indebted();
            l.join(0, 0);
            l.purchase(0, 0, 10 * row[0]);
            CHECKS.equal("the debt stands beside the pool", l.debt(0), 10);
            CHECKS.equal("leave with " + row[0], l.leave(0), row[0]);
            credited("leaving with " + row[0], l, row);
        }
        PointsLedger l = indebted();
        l.join(0, 0);
        l.purchase(0, 0, 120);
        l.advance(1);
        l.purchase(0, 0, 30);
        l.leave(0);
        CHECKS.account("the first cohort settles on leaving", l, 0, 2, 50, 3, 51);
    }
}
