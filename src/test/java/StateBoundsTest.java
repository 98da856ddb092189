import java.util.NoSuchElementException;

/**
 * Each sentence of the promises 10 to 13 and 15 to 30 (transfers, households, the setup and the
 * state) that names a boundary case.
 */
public final class StateBoundsTest {
    private static final Checks CHECKS = new Checks();
    private static final Class<?> INDEX = IndexOutOfBoundsException.class;
    private static final Class<?> ARGUMENT = IllegalArgumentException.class;
    private static final Class<?> STATE = IllegalStateException.class;
    private static final Class<?> ELEMENT = NoSuchElementException.class;

    /** Twelve members, four households, eight categories, five tiers, eight promotions. */
    private static final String FULL = "member a;member b;member c;member d;member e;member f;"
            + "member g;member h;member i;member j;member k;member l;house m 1;house n 2;"
            + "house o 3;house p 100;category q 10 0;category r 1 0;category s 2 0;category t 3 0;"
            + "category u 4 0;category v 5 0;category w 6 0;category x 7 0;tier ta 0 0;"
            + "tier tb 1000 0;tier tc 2000 0;tier td 3000 0;tier te 4000 0;promo q 0 0 1;"
            + "promo x 9999 9999 2;promo r 1 1 3;promo r 1 1 4;promo r 1 2 5;promo s 5 5 6;"
            + "promo t 5 5 7;promo x 0 9999 8;life 50";

    public static void main(String[] args) {
        transferOneAndAll();
        transferSettles();
        transferKeepsTheDays();
        transferLeavesThePool();
        joinCountsMembers();
        leaveTakesAll();
        leaveAddsToTheAccount();
        leaveLeavesOthers();
        setShareBounds();
        setupOfEverything();
        setupOfNothing();
        thresholds();
        extrasOfDays();
        balancesOfNothing();
        availableTogether();
        cohortsFirstAndLast();
        poolCohortsFirstAndLast();
        householdsFirstAndLast();
        membersAsBits();
        contributedStillThere();
        contributedWithoutHousehold();
        totalsAtFirst();
        totalOfPurchases();
        totalOfSettledPoints();
        totalsOfEverybody();
        lastMemberEverywhere();
        CHECKS.finish("StateBoundsTest");
    }

    private static PointsLedger full() {
        return Checks.loaded(FULL);
    }

    private static PointsLedger shop(String more) {
        return Checks.loaded("category food 10 0;member ann;member bob;member cy;life 50" + more);
    }

    /** Ann has 10 points until day 50 and 20 until day 51. */
    private static PointsLedger giver() {
        PointsLedger l = shop(";house h 50");
        l.purchase(0, 0, 100);
        l.advance(1);
        l.purchase(0, 0, 200);
        return l;
    }

    /** Promise 10: "points: 1 or more", "if the account has fewer points" */
    private static void transferOneAndAll() {
        PointsLedger l = giver();
        CHECKS.equal("one point", l.transfer(0, 1, 1), 0);
        CHECKS.account("one point has gone", l, 0, 9, 50, 20, 51);
        CHECKS.account("one point has come", l, 1, 1, 50);
        CHECKS.logged("one point", l, 0, 3, 1, 0, 1);
        CHECKS.refused("one more than all", STATE, StateBoundsTest::giver, x -> x.transfer(0, 1, 31));
        CHECKS.equal("all points", giver().transfer(0, 1, 30), 0);
        l = giver();
        l.transfer(0, 2, 30);
        CHECKS.account("all have gone", l, 0);
        CHECKS.account("all have come", l, 2, 10, 50, 20, 51);
        CHECKS.thrown("there is not one more", STATE, l, x -> x.transfer(0, 2, 1));
        CHECKS.refused("no point", ARGUMENT, StateBoundsTest::giver, x -> x.transfer(0, 1, 0));
        CHECKS.refused("to oneself", ARGUMENT, StateBoundsTest::giver, x -> x.transfer(0, 0, 1));
        CHECKS.refused("to member 3", INDEX, StateBoundsTest::giver, x -> x.transfer(0, 3, 1));
        CHECKS.refused("from member -1", INDEX, StateBoundsTest::giver, x -> x.transfer(-1, 0, 1));
    }

    /** "Returns how many of them are settled points." */
    private static void transferSettles() {
        int[][] due = {{1, 1}, {14, 14}, {15, 15}, {16, 15}, {30, 15}};
        for (int[] row : due) {
            PointsLedger l = giver();
            l.purchase(1, 0, 150);
            l.redeem(1, 15);
            l.refund(2);
            CHECKS.equal("settled of " + row[0], l.transfer(0, 1, row[0]), row[1]);
            CHECKS.equal("settled in all of " + row[0], l.total(4), row[1]);
            CHECKS.equal("the debt behind " + row[0], l.debt(1), 15 - row[1]);
            CHECKS.equal("the rest of " + row[0], l.balance(1), row[0] - row[1]);
            CHECKS.equal("the log of " + row[0], l.log(0, 3), row[0]);
        }
        PointsLedger l = giver();
        l.redeem(0, 25);
        l.refund(1);
        CHECKS.equal("the giver's debt", l.debt(0), 15);
        l.purchase(1, 0, 200);
        CHECKS.equal("is settled as well", l.transfer(1, 0, 20), 15);
    }

    /** "those of each cohort are credited .. with the same day of expiry, the first cohort first" */
    private static void transferKeepsTheDays() {
        PointsLedger l = giver();
        l.advance(3);
        l.purchase(1, 0, 50);
        l.transfer(0, 1, 11);
        CHECKS.account("the days stay", l, 1, 10, 50, 1, 51, 5, 54);
        l.purchase(2, 0, 70);
        l.redeem(2, 7);
        l.refund(3);
        l.transfer(0, 2, 8);
        CHECKS.account("what is not settled keeps its day", l, 2, 1, 51);
    }

    /** "Transfers points from the account": neither pool changes. */
    private static void transferLeavesThePool() {
        PointsLedger l = giver();
        l.join(0, 0);
        l.join(1, 0);
        l.purchase(0, 0, 400);
        CHECKS.equal("in the account", l.balance(0), 50);
        CHECKS.equal("in the pool", l.poolBalance(0), 20);
        CHECKS.thrown("the pool does not count", STATE, l, x -> x.transfer(0, 1, 51));
        l.transfer(0, 1, 50);
        CHECKS.pool("the pool stays", l, 0, 20, 51, 0);
        CHECKS.equal("all are bob's own", l.balance(1), 50);
    }

    /** Promise 11: "Returns the number of its members afterwards.": 1 to 4. */
    private static void joinCountsMembers() {
        PointsLedger l = full();
        for (int i = 0; i < 4; i++) {
            CHECKS.equal("join the last household", l.join(11 - i, 3), i + 1);
        }
        CHECKS.equal("join the first household", l.join(0, 0), 1);
        CHECKS.thrown("join a full one", STATE, l, x -> x.join(1, 3));
        CHECKS.thrown("member 12", INDEX, l, x -> x.join(12, 0));
        CHECKS.thrown("household 4", INDEX, l, x -> x.join(1, 4));
        l.leave(11);
        CHECKS.equal("when one has left", l.join(1, 3), 4);
        CHECKS.equal("the members", l.members(3), 0x702);
    }

    /** Promise 12: "Returns the number of points that are removed from the pool." */
    private static void leaveTakesAll() {
        PointsLedger l = shop(";house h 100");
        l.join(0, 0);
        CHECKS.equal("nothing", l.leave(0), 0);
        l.join(0, 0);
        l.purchase(0, 0, 10);
        CHECKS.equal("one point", l.leave(0), 1);
        CHECKS.account("one point", l, 0, 1, 50);
        CHECKS.equal("no household", l.household(0), PointsLedger.NONE);
        CHECKS.thrown("leave again", STATE, l, x -> x.leave(0));
        CHECKS.equal("the change is one", l.undoCount(), 5);
    }

    /** "their points are credited to the member with the same day of expiry" */
    private static void leaveAddsToTheAccount() {
        PointsLedger l = shop(";house h 50");
        l.join(0, 0);
        for (int day = 0; day < 3; day++) {
            l.purchase(0, 0, 200 + 20 * day);
            l.advance(1);
        }
        l.redeem(0, 21);
        CHECKS.account("before", l, 0, 12, 52);
        CHECKS.pool("before", l, 0, 10, 50, 0, 11, 51, 0, 12, 52, 0);
        CHECKS.equal("three cohorts", l.leave(0), 33);
        CHECKS.account("old days and the same day", l, 0, 10, 50, 11, 51, 24, 52);
        CHECKS.pool("nothing is left", l, 0);
    }

    /** "All cohorts of the pool with this contributor" */
    private static void leaveLeavesOthers() {
        PointsLedger l = shop(";house h 100;house k 100");
        for (int member = 0; member < 3; member++) {
            l.join(member, 0);
            l.purchase(member, 0, 10 * (member + 1));
        }
        l.advance(1);
        l.purchase(1, 0, 70);
        CHECKS.equal("bob's", l.leave(1), 2 + 7);
        CHECKS.pool("ann's and cy's", l, 0, 1, 50, 0, 3, 50, 2);
        CHECKS.account("bob has his", l, 1, 2, 50, 7, 51);
        CHECKS.equal("ann has nothing of them", l.balance(0), 0);
        CHECKS.equal("they stay there", l.members(0), 5);
        l.join(1, 1);
        l.purchase(1, 0, 90);
        l.leave(0);
        CHECKS.pool("another pool is untouched", l, 1, 9, 51, 1);
    }

    /** Promise 13: "percent: 0 to 100", "Returns the previous share." */
    private static void setShareBounds() {
        PointsLedger l = full();
        CHECKS.equal("the last share", l.setShare(3, 0), 100);
        CHECKS.equal("0 before", l.setShare(3, 100), 0);
        CHECKS.equal("100 before", l.setShare(3, 1), 100);
        CHECKS.equal("the first share", l.setShare(0, 99), 1);
        CHECKS.equal("the second is another one", l.setShare(1, 5), 2);
        CHECKS.equal("the same share", l.setShare(1, 5), 5);
        for (int percent : new int[] {-1, 101}) {
            CHECKS.refused("percent " + percent, ARGUMENT, StateBoundsTest::full,
                    x -> x.setShare(3, percent));
        }
        for (int household : new int[] {-1, 4}) {
            CHECKS.refused("household " + household, INDEX, StateBoundsTest::full,
                    x -> x.setShare(household, 0));
        }
    }

    /** Promise 15: "what: 0 number of tiers .. 7 grace", all as many as there can be. */
    private static void setupOfEverything() {
        int[] due = {5, 8, 8, 12, 4, 50, 365, 0};
        for (int what = 0; what <= 7; what++) {
            CHECKS.equal("setup " + what, full().setup(what), due[what]);
        }
        for (int what : new int[] {-1, 8}) {
            CHECKS.refused("setup " + what, ARGUMENT, StateBoundsTest::full, x -> x.setup(what));
        }
    }

    private static void setupOfNothing() {
        int[] due = {1, 0, 0, 0, 0, 365, 365, 400};
        for (int what = 0; what <= 7; what++) {
            CHECKS.equal("least setup " + what, Checks.loaded("grace 400").setup(what), due[what]);
        }
    }

    /** Promise 16: "if there is no such tier" */
    private static void thresholds() {
        for (int tier = 0; tier <= 4; tier++) {
            CHECKS.equal("threshold " + tier, full().threshold(tier), 1000 * tier);
        }
        for (int tier : new int[] {-1, 5}) {
            CHECKS.refused("threshold " + tier, INDEX, StateBoundsTest::full, x -> x.threshold(tier));
        }
        CHECKS.refused("threshold 1 of one", INDEX, () -> shop(""), x -> x.threshold(1));
        CHECKS.refused("threshold 2 of two", INDEX,
                () -> Checks.loaded("tier a 0 0;tier b 7 0"), x -> x.threshold(2));
        CHECKS.equal("threshold 1 of two", Checks.loaded("tier a 0 0;tier b 7 0").threshold(1), 7);
    }

    /** Promise 17: "day: 0 to 9999", "the sum of the extras of all promotions" */
    private static void extrasOfDays() {
        int[][] due = {{0, 0, 1}, {0, 1, 0}, {7, 0, 8}, {7, 9998, 8}, {7, 9999, 10}, {1, 0, 0},
            {1, 1, 12}, {1, 2, 5}, {1, 3, 0}, {2, 5, 6}, {3, 5, 7}, {4, 5, 0}};
        for (int[] row : due) {
            CHECKS.equal("extras of " + row[0] + " on " + row[1], full().extras(row[0], row[1]), row[2]);
        }
        for (int day : new int[] {-1, 10000}) {
            CHECKS.refused("extras on " + day, ARGUMENT, StateBoundsTest::full, x -> x.extras(7, day));
        }
        for (int category : new int[] {-1, 8}) {
            CHECKS.refused("extras of " + category, INDEX, StateBoundsTest::full,
                    x -> x.extras(category, 0));
        }
    }

    /** Promises 19 to 22, of who has nothing. */
    private static void balancesOfNothing() {
        for (int member : new int[] {0, 11}) {
            PointsLedger l = full();
            CHECKS.equal("balance of nothing", l.balance(member), 0);
            CHECKS.equal("debt of nothing", l.debt(member), 0);
            CHECKS.equal("available of nothing", l.available(member), 0);
            CHECKS.equal("cohorts of nothing", l.cohortCount(member), 0);
        }
        for (int member : new int[] {-1, 12}) {
            CHECKS.refused("balance of " + member, INDEX, StateBoundsTest::full, x -> x.balance(member));
            CHECKS.refused("debt of " + member, INDEX, StateBoundsTest::full, x -> x.debt(member));
            CHECKS.refused("available for " + member, INDEX, StateBoundsTest::full,
                    x -> x.available(member));
            CHECKS.refused("cohorts of " + member, INDEX, StateBoundsTest::full,
                    x -> x.cohortCount(member));
        }
    }

    /** Promise 21: "the points of the account and of the pool of the member's household together" */
    private static void availableTogether() {
        PointsLedger l = shop(";house h 50;house k 50");
        l.join(0, 0);
        l.join(1, 1);
        l.purchase(0, 0, 200);
        l.purchase(1, 0, 400);
        CHECKS.equal("ann's own and the pool's", l.available(0), 20);
        CHECKS.equal("bob's own and the other pool's", l.available(1), 40);
        CHECKS.equal("cy has none", l.available(2), 0);
        l.join(2, 0);
        CHECKS.equal("cy has the pool's", l.available(2), 10);
        l.leave(0);
        CHECKS.equal("the pool is empty", l.available(2), 0);
        CHECKS.equal("all in ann's account", l.available(0), 20);
        CHECKS.equal("just available", l.redeem(1, 40), 20);
        CHECKS.equal("none is available", l.available(1), 0);
    }

    /** Promise 23: "index: from 0", "what: 0 its points, 1 its day of expiry" */
    private static void cohortsFirstAndLast() {
        PointsLedger l = giver();
        CHECKS.equal("points of the first", l.cohort(0, 0, 0), 10);
        CHECKS.equal("day of the first", l.cohort(0, 0, 1), 50);
        CHECKS.equal("points of the last", l.cohort(0, 1, 0), 20);
        CHECKS.equal("day of the last", l.cohort(0, 1, 1), 51);
        for (int index : new int[] {-1, 2}) {
            CHECKS.refused("cohort " + index, INDEX, StateBoundsTest::giver, x -> x.cohort(0, index, 0));
        }
        for (int what : new int[] {-1, 2}) {
            CHECKS.refused("part " + what, ARGUMENT, StateBoundsTest::giver, x -> x.cohort(0, 0, what));
            CHECKS.refused("part " + what + " of none", INDEX, StateBoundsTest::giver,
                    x -> x.cohort(0, 2, what));
        }
        CHECKS.refused("cohort 0 of none", INDEX, StateBoundsTest::giver, x -> x.cohort(1, 0, 0));
        // Bob's account stands behind ann's: her third cohort is not his first.
        PointsLedger both = giver();
        both.purchase(1, 0, 300);
        CHECKS.thrown("the cohort of the next", INDEX, both, x -> x.cohort(0, 2, 0));
        CHECKS.thrown("the cohort of the one before", INDEX, both, x -> x.cohort(1, -1, 0));
        CHECKS.equal("bob's first", both.cohort(1, 0, 0), 30);
    }

    /** Promise 28: "what: 0 its points, 1 its day of expiry, 2 its contributor" */
    private static void poolCohortsFirstAndLast() {
        PointsLedger l = pools();
        int[][] due = {{1, 50, 0}, {2, 50, 1}, {3, 51, 0}};
        for (int index = 0; index < 3; index++) {
            for (int what = 0; what <= 2; what++) {
                CHECKS.equal("part " + what + " of pool cohort " + index,
                        l.poolCohort(0, index, what), due[index][what]);
            }
        }
        CHECKS.equal("the other pool", l.poolCohort(1, 0, 0), 4);
        CHECKS.equal("the other pool's contributor", l.poolCohort(1, 0, 2), 2);
        CHECKS.equal("cohorts of a pool", l.poolCohortCount(0), 3);
        CHECKS.equal("points of a pool", l.poolBalance(0), 6);
        CHECKS.equal("cohorts of the other", l.poolCohortCount(1), 1);
        CHECKS.equal("points of the other", l.poolBalance(1), 4);
        CHECKS.equal("cohorts of an empty one", l.poolCohortCount(2), 0);
        CHECKS.equal("points of an empty one", l.poolBalance(2), 0);
        for (int index : new int[] {-1, 3}) {
            CHECKS.refused("pool cohort " + index, INDEX, StateBoundsTest::pools,
                    x -> x.poolCohort(0, index, 0));
        }
        CHECKS.refused("pool cohort 1 of the other", INDEX, StateBoundsTest::pools,
                x -> x.poolCohort(1, 1, 0));
        CHECKS.refused("pool cohort 0 of an empty one", INDEX, StateBoundsTest::pools,
                x -> x.poolCohort(2, 0, 0));
        for (int what : new int[] {-1, 3}) {
            CHECKS.refused("pool part " + what, ARGUMENT, StateBoundsTest::pools,
                    x -> x.poolCohort(0, 2, what));
            CHECKS.refused("pool part " + what + " of none", INDEX, StateBoundsTest::pools,
                    x -> x.poolCohort(0, 3, what));
        }
        for (int household : new int[] {-1, 3}) {
            CHECKS.refused("pool " + household, INDEX, StateBoundsTest::pools,
                    x -> x.poolCohort(household, 0, 0));
        }
    }

    private static PointsLedger pools() {
        PointsLedger l = shop(";house h 100;house k 100;house m 100");
        l.join(0, 0);
        l.join(1, 0);
        l.join(2, 1);
        l.purchase(1, 0, 20);
        l.purchase(0, 0, 10);
        l.advance(1);
        l.purchase(0, 0, 30);
        l.purchase(2, 0, 40);
        return l;
    }

    /** Promise 24: "NONE if the member belongs to none" */
    private static void householdsFirstAndLast() {
        PointsLedger l = full();
        CHECKS.equal("none", l.household(11), PointsLedger.NONE);
        l.join(11, 3);
        l.join(0, 0);
        CHECKS.equal("the last", l.household(11), 3);
        CHECKS.equal("the first", l.household(0), 0);
        l.leave(0);
        CHECKS.equal("none again", l.household(0), PointsLedger.NONE);
        for (int member : new int[] {-1, 12}) {
            CHECKS.refused("household of " + member, INDEX, StateBoundsTest::full,
                    x -> x.household(member));
        }
    }

    /** Promise 25: "a bit set: bit m is set for member m" */
    private static void membersAsBits() {
        PointsLedger l = full();
        CHECKS.equal("nobody", l.members(3), 0);
        l.join(0, 3);
        CHECKS.equal("the first bit", l.members(3), 1);
        l.join(11, 3);
        CHECKS.equal("the first and the last bit", l.members(3), 0x801);
        l.leave(0);
        CHECKS.equal("the last bit", l.members(3), 0x800);
        CHECKS.equal("another household", l.members(0), 0);
        for (int household : new int[] {-1, 4}) {
            CHECKS.refused("members of " + household, INDEX, StateBoundsTest::full,
                    x -> x.members(household));
            CHECKS.refused("pool balance of " + household, INDEX, StateBoundsTest::full,
                    x -> x.poolBalance(household));
            CHECKS.refused("pool cohorts of " + household, INDEX, StateBoundsTest::full,
                    x -> x.poolCohortCount(household));
        }
    }

    /** Promise 29: "has contributed to the pool .. and that are still there" */
    private static void contributedStillThere() {
        PointsLedger l = pools();
        CHECKS.equal("ann's, of two days", l.contributed(0), 4);
        CHECKS.equal("bob's", l.contributed(1), 2);
        l.redeem(1, 1);
        CHECKS.equal("one of ann's has gone", l.contributed(0), 3);
        CHECKS.equal("bob's are still there", l.contributed(1), 2);
        l.advance(49);
        CHECKS.equal("ann's later ones", l.contributed(0), 3);
        CHECKS.equal("bob's have expired", l.contributed(1), 0);
    }

    /** "0 if the member belongs to no household" */
    private static void contributedWithoutHousehold() {
        PointsLedger l = pools();
        l.leave(0);
        CHECKS.equal("left", l.contributed(0), 0);
        CHECKS.equal("never there", giver().contributed(0), 0);
        CHECKS.equal("of twelve", full().contributed(11), 0);
        l.join(0, 1);
        CHECKS.equal("in another one", l.contributed(0), 0);
        CHECKS.equal("cy is there", l.contributed(2), 4);
    }

    /** Promise 30: "what: 0 points of all purchases .. 6 all debts" */
    private static void totalsAtFirst() {
        for (int what = 0; what <= 6; what++) {
            CHECKS.equal("total " + what + " at first", full().total(what), 0);
        }
        for (int what : new int[] {-1, 7}) {
            CHECKS.refused("total " + what, ARGUMENT, StateBoundsTest::full, x -> x.total(what));
        }
    }

    /** "points of all purchases (refunded ones included)" */
    private static void totalOfPurchases() {
        PointsLedger l = giver();
        l.refund(0);
        l.refund(1);
        CHECKS.equal("refunded ones included", l.total(0), 30);
        CHECKS.equal("reclaimed", l.total(3), 30);
        CHECKS.equal("nothing in the accounts", l.total(5), 0);
        CHECKS.equal("no debts", l.total(6), 0);
        for (int i = 0; i < 45; i++) {
            l.purchase(i % 3, 0, 10);
        }
        CHECKS.equal("those that are not kept too", l.total(0), 75);
    }

    /** "settled points": by a purchase, a transfer and leaving. */
    private static void totalOfSettledPoints() {
        PointsLedger l = giver();
        l.redeem(0, 30);
        l.refund(0);
        l.refund(1);
        CHECKS.equal("the debts", l.total(6), 30);
        CHECKS.equal("nothing reclaimed", l.total(3), 0);
        l.purchase(0, 0, 50);
        CHECKS.equal("by a purchase", l.total(4), 5);
        l.purchase(1, 0, 70);
        l.transfer(1, 0, 7);
        CHECKS.equal("by a transfer", l.total(4), 12);
        l.join(0, 0);
        l.purchase(0, 0, 40);
        CHECKS.equal("by what the pool leaves", l.total(4), 14);
        CHECKS.equal("leave with two", l.leave(0), 2);
        CHECKS.equal("by leaving", l.total(4), 16);
        CHECKS.equal("the debts behind it", l.total(6), 14);
    }

    /** "points in all accounts and pools", "all debts": of the first and the last. */
    private static void totalsOfEverybody() {
        PointsLedger l = full();
        l.join(11, 3);
        l.purchase(0, 0, 10000);
        l.purchase(11, 0, 20000);
        CHECKS.equal("the points", l.purchasePart(0, 4) + l.purchasePart(1, 4), 1010 + 2020);
        CHECKS.equal("an account and a pool", l.total(5), 3030);
        CHECKS.equal("all in the last pool", l.poolBalance(3), 2020);
        l.redeem(0, 1010);
        l.redeem(11, 2020);
        l.refund(0);
        l.refund(1);
        CHECKS.equal("the debts of the first and the last", l.total(6), 3030);
        CHECKS.equal("redeemed", l.total(1), 3030);
        CHECKS.equal("no points", l.total(5), 0);
    }

    /** Member 11, category 7 and household 3 are there like the others. */
    private static void lastMemberEverywhere() {
        PointsLedger l = full();
        l.join(11, 3);
        l.setShare(3, 50);
        CHECKS.equal("purchase", l.purchase(11, 7, 10000), 756);
        CHECKS.equal("balance", l.balance(11), 378);
        CHECKS.equal("contributed", l.contributed(11), 378);
        CHECKS.equal("next expiry", l.nextExpiry(11), 50);
        CHECKS.equal("expiring", l.expiringWithin(11, 50), 378);
        CHECKS.equal("qualifying", l.qualifying(11), 700);
        CHECKS.equal("to the next tier", l.toNextTier(11), 300);
        CHECKS.equal("best category", l.bestCategory(11, 100), 0);
        CHECKS.equal("least cents", l.leastCents(11, 7, 1), 15);
        CHECKS.equal("transfer", l.transfer(11, 0, 1), 0);
        CHECKS.equal("rank", l.rankedMember(0), 11);
        CHECKS.thrown("no member 12", INDEX, l, x -> x.transfer(11, 12, 1));
        CHECKS.thrown("no points of member 10", ELEMENT, l, x -> x.nextExpiry(10));
        CHECKS.equal("leave", l.leave(11), 378);
        CHECKS.equal("tier after", l.tierAfter(11, 2000), 0);
        CHECKS.equal("below since", l.belowSince(11), PointsLedger.NONE);
        l.advance(50);
        CHECKS.equal("breakage", l.breakage(11), 0);
        CHECKS.logged("expired", l, 0, 4, 50, 11, 755);
    }
}
