/** Promises 15 to 30: the setup and the state. */
public final class StateTest {
    private static final Checks CHECKS = new Checks();
    private static final Class<?> INDEX = IndexOutOfBoundsException.class;
    private static final Class<?> ARGUMENT = IllegalArgumentException.class;

    public static void main(String[] args) {
        promise15Setup();
        promise16Threshold();
        promise17Extras();
        promise18Today();
        promise19to22Numbers();
        promise23Cohort();
        promise24And25Household();
        promise26To28Pool();
        promise29Contributed();
        promise30Total();
        CHECKS.finish("StateTest");
    }

    /** ann 0, bob 1, cy 2; home 0 with ann and bob, hut 1; on day 3 of a life of 20. */
    private static PointsLedger village() {
        PointsLedger l = Checks.loaded("category food 10 0;category fuel 5 50;"
                + "member ann;member bob;member cy;house home 25;house hut 50;life 20");
        l.join(0, 0);
        l.join(1, 0);
        l.purchase(0, 0, 1000);
        l.advance(2);
        l.purchase(0, 0, 2000);
        l.purchase(1, 0, 400);
        l.advance(1);
        l.purchase(2, 0, 30);
        return l;
    }

    private static void promise15Setup() {
        PointsLedger l = Checks.loaded("tier a 0 0;tier b 5 0;category c 1 2;category d 1 2;category e 1 2;"
                + "promo c 0 0 1;promo c 0 0 1;promo c 0 0 1;promo c 0 0 1;member f;"
                + "house g 1;house h 1;house i 1;life 11;window 12;grace 13");
        int[] due = {2, 3, 4, 1, 3, 11, 12, 13};
        for (int what = 0; what < due.length; what++) {
            CHECKS.equal("setup " + what, l.setup(what), due[what]);
        }
        PointsLedger missing = Checks.loaded("member f");
        int[] least = {1, 0, 0, 1, 0, 365, 365, 0};
        for (int what = 0; what < least.length; what++) {
            CHECKS.equal("setup with what is missing " + what, missing.setup(what), least[what]);
        }
        for (int what : new int[] {-1, 8, Integer.MIN_VALUE, Integer.MAX_VALUE}) {
            CHECKS.refused("setup " + what, ARGUMENT, StateTest::village, x -> x.setup(what));
        }
    }

    private static PointsLedger fiveTiers() {
        return Checks.loaded("tier a 0 0;tier b 1 0;tier c 50 0;tier d 7777 0;tier e 1000000 0");
    }

    private static void promise16Threshold() {
        int[] due = {0, 1, 50, 7777, 1000000};
        for (int tier = 0; tier < due.length; tier++) {
            CHECKS.equal("threshold " + tier, fiveTiers().threshold(tier), due[tier]);
        }
        CHECKS.refused("threshold -1", INDEX, StateTest::fiveTiers, x -> x.threshold(-1));
        CHECKS.refused("threshold 5", INDEX, StateTest::fiveTiers, x -> x.threshold(5));
        CHECKS.equal("the only threshold", village().threshold(0), 0);
        CHECKS.refused("threshold 1", INDEX, StateTest::village, x -> x.threshold(1));
    }

    private static PointsLedger promoted() {
        return Checks.loaded("category c 1 0;category d 1 0;promo c 5 10 3;promo d 5 9999 500;"
                + "promo c 10 10 20;promo c 0 5 100");
    }

    private static void promise17Extras() {
        int[][] due = {{0, 0, 100}, {0, 4, 100}, {0, 5, 103}, {0, 6, 3}, {0, 9, 3}, {0, 10, 23},
            {0, 11, 0}, {0, 9999, 0}, {1, 4, 0}, {1, 5, 500}, {1, 9999, 500}};
        for (int[] row : due) {
            CHECKS.equal("extras " + row[0] + " on " + row[1], promoted().extras(row[0], row[1]), row[2]);
        }
        CHECKS.equal("no promotion", village().extras(0, 0), 0);
        CHECKS.refused("extras of -1", INDEX, StateTest::promoted, x -> x.extras(-1, 0));
        CHECKS.refused("extras of 2", INDEX, StateTest::promoted, x -> x.extras(2, 0));
        CHECKS.refused("the category first", INDEX, StateTest::promoted, x -> x.extras(2, -1));
        CHECKS.refused("extras on -1", ARGUMENT, StateTest::promoted, x -> x.extras(0, -1));
        CHECKS.refused("extras on 10000", ARGUMENT, StateTest::promoted, x -> x.extras(0, 10000));
    }

    private static void promise18Today() {
        PointsLedger l = village();
        CHECKS.equal("today", l.today(), 3);
        l.advance(1);
        CHECKS.equal("tomorrow", l.today(), 4);
        for (int i = 0; i < 24; i++) {
            l.advance(400);
        }
        l.advance(395);
        CHECKS.equal("the last day", l.today(), 9999);
    }

    private static void promise19to22Numbers() {
        PointsLedger l = village();
        int[][] due = {{225, 0, 225 + 85, 2}, {30, 0, 30 + 85, 1}, {3, 0, 3, 1}};
        for (int member = 0; member < due.length; member++) {
            CHECKS.equal("balance " + member, l.balance(member), due[member][0]);
            CHECKS.equal("debt " + member, l.debt(member), due[member][1]);
            CHECKS.equal("available " + member, l.available(member), due[member][2]);
            CHECKS.equal("cohorts " + member, l.cohortCount(member), due[member][3]);
        }
        l.redeem(0, 225 + 60);
        CHECKS.equal("balance of none", l.balance(0), 0);
        CHECKS.equal("available from the pool", l.available(0), 25);
        CHECKS.equal("no cohorts", l.cohortCount(0), 0);
        l.refund(0);
        CHECKS.equal("a debt", l.debt(0), 100 - 15);
        CHECKS.equal("available are bob's points", l.available(0), 10);
        for (int member : new int[] {-1, 3, Integer.MIN_VALUE, Integer.MAX_VALUE}) {
            CHECKS.refused("balance", INDEX, StateTest::village, x -> x.balance(member));
            CHECKS.refused("debt", INDEX, StateTest::village, x -> x.debt(member));
            CHECKS.refused("available", INDEX, StateTest::village, x -> x.available(member));
            CHECKS.refused("cohortCount", INDEX, StateTest::village, x -> x.cohortCount(member));
        }
    }

    private static void promise23Cohort() {
        PointsLedger l = village();
        CHECKS.equal("points of the first", l.cohort(0, 0, 0), 75);
        CHECKS.equal("its day", l.cohort(0, 0, 1), 20);
        CHECKS.equal("points of the second", l.cohort(0, 1, 0), 150);
        CHECKS.equal("its day", l.cohort(0, 1, 1), 22);
        CHECKS.equal("another member", l.cohort(2, 0, 1), 23);
        l.transfer(2, 0, 1);
        l.transfer(0, 2, 80);
        CHECKS.equal("an earlier day comes first", l.cohort(2, 0, 1), 20);
        CHECKS.equal("with its points", l.cohort(2, 0, 0), 75);
        CHECKS.equal("then the next", l.cohort(2, 1, 0), 5);
        CHECKS.equal("the latest is last", l.cohort(2, 2, 0), 2);
        l.transfer(2, 0, 82);
        CHECKS.equal("merged again", l.cohort(0, 1, 0), 150);
        CHECKS.equal("in three cohorts", l.cohortCount(0), 3);
        CHECKS.refused("cohort of -1", INDEX, StateTest::village, x -> x.cohort(-1, 0, 0));
        CHECKS.refused("cohort of 3", INDEX, StateTest::village, x -> x.cohort(3, 0, 0));
        CHECKS.refused("an account is no pool", INDEX, StateTest::twelve, x -> x.cohort(12, 0, 0));
        CHECKS.refused("cohort -1", INDEX, StateTest::village, x -> x.cohort(0, -1, 0));
        CHECKS.refused("cohort 2", INDEX, StateTest::village, x -> x.cohort(0, 2, 0));
        CHECKS.refused("cohort 1 of bob", INDEX, StateTest::village, x -> x.cohort(1, 1, 0));
        CHECKS.refused("the cohort first", INDEX, StateTest::village, x -> x.cohort(0, 2, 2));
        CHECKS.refused("part -1", ARGUMENT, StateTest::village, x -> x.cohort(0, 0, -1));
        CHECKS.refused("part 2", ARGUMENT, StateTest::village, x -> x.cohort(0, 0, 2));
    }

    /** Twelve members; the first and the last one live in x, and have points. */
    private static PointsLedger twelve() {
        PointsLedger l = Checks.loaded("member a;member b;member c;member d;member e;member f;"
                + "member g;member h;member i;member j;member k;member l;house x 50;category y 10 0");
        l.join(11, 0);
        l.join(0, 0);
        l.purchase(0, 0, 1000);
        l.purchase(11, 0, 2000);
        return l;
    }

    private static void promise24And25Household() {
        PointsLedger l = village();
        CHECKS.equal("household of ann", l.household(0), 0);
        CHECKS.equal("household of cy", l.household(2), -1);
        CHECKS.equal("members of home", l.members(0), 3);
        CHECKS.equal("members of hut", l.members(1), 0);
        l.join(2, 1);
        l.leave(0);
        CHECKS.equal("ann left", l.household(0), -1);
        CHECKS.equal("cy joined", l.household(2), 1);
        CHECKS.equal("bob is alone", l.members(0), 2);
        CHECKS.equal("cy too", l.members(1), 4);
        CHECKS.equal("the last member's bit", twelve().members(0), 2049);
        for (int number : new int[] {-1, 3, Integer.MIN_VALUE, Integer.MAX_VALUE}) {
            CHECKS.refused("household", INDEX, StateTest::village, x -> x.household(number));
        }
        for (int number : new int[] {-1, 2, Integer.MIN_VALUE, Integer.MAX_VALUE}) {
            CHECKS.refused("members", INDEX, StateTest::village, x -> x.members(number));
            CHECKS.refused("poolBalance", INDEX, StateTest::village, x -> x.poolBalance(number));
            CHECKS.refused("poolCohortCount", INDEX, StateTest::village,
                    x -> x.poolCohortCount(number));
        }
    }

    private static void promise26To28Pool() {
        PointsLedger l = village();
        CHECKS.equal("pool", l.poolBalance(0), 85);
        CHECKS.equal("pool cohorts", l.poolCohortCount(0), 3);
        CHECKS.equal("empty pool", l.poolBalance(1), 0);
        CHECKS.equal("no pool cohorts", l.poolCohortCount(1), 0);
        int[][] due = {{25, 20, 0}, {50, 22, 0}, {10, 22, 1}};
        for (int index = 0; index < due.length; index++) {
            for (int what = 0; what <= 2; what++) {
                CHECKS.equal("pool cohort " + index, l.poolCohort(0, index, what), due[index][what]);
            }
        }
        l.join(2, 1);
        l.purchase(2, 0, 100);
        CHECKS.equal("another pool", l.poolCohort(1, 0, 2), 2);
        CHECKS.equal("the first pool stays", l.poolCohort(0, 2, 2), 1);
        CHECKS.refused("pool -1", INDEX, StateTest::village, x -> x.poolCohort(-1, 0, 0));
        CHECKS.refused("pool 2", INDEX, StateTest::village, x -> x.poolCohort(2, 0, 0));
        CHECKS.refused("a pool is no account", INDEX, StateTest::twelve, x -> x.poolCohort(-12, 0, 0));
        CHECKS.refused("pool cohort -1", INDEX, StateTest::village, x -> x.poolCohort(0, -1, 0));
        CHECKS.refused("pool cohort 3", INDEX, StateTest::village, x -> x.poolCohort(0, 3, 0));
        CHECKS.refused("pool cohort of none", INDEX, StateTest::village, x -> x.poolCohort(1, 0, 0));
        CHECKS.refused("the pool cohort first", INDEX, StateTest::village, x -> x.poolCohort(0, 3, 3));
        CHECKS.refused("pool part -1", ARGUMENT, StateTest::village, x -> x.poolCohort(0, 0, -1));
        CHECKS.refused("pool part 3", ARGUMENT, StateTest::village, x -> x.poolCohort(0, 0, 3));
    }

    private static void promise29Contributed() {
        PointsLedger l = village();
        CHECKS.equal("ann contributed", l.contributed(0), 75);
        CHECKS.equal("bob contributed", l.contributed(1), 10);
        CHECKS.equal("cy has no household", l.contributed(2), 0);
        l.redeem(1, 30 + 26);
        CHECKS.equal("what is still there", l.contributed(0), 49);
        CHECKS.equal("bob's is untouched", l.contributed(1), 10);
        l.join(2, 0);
        CHECKS.equal("cy contributed nothing", l.contributed(2), 0);
        l.leave(0);
        CHECKS.equal("ann left", l.contributed(0), 0);
        CHECKS.refused("contributed -1", INDEX, StateTest::village, x -> x.contributed(-1));
        CHECKS.refused("contributed 3", INDEX, StateTest::village, x -> x.contributed(3));
    }

    private static void promise30Total() {
        PointsLedger l = village();
        l.redeem(0, 300);
        l.refund(2);
        l.refund(1);
        l.purchase(0, 0, 440);
        l.advance(17);
        int[] due = {100 + 200 + 40 + 3 + 44, 300, 0, 40, 33, 11 + 3, 200 - 33};
        for (int what = 0; what < due.length; what++) {
            CHECKS.equal("total " + what, l.total(what), due[what]);
        }
        l.advance(3);
        CHECKS.equal("expired", l.total(2), 14);
        CHECKS.equal("nothing left", l.total(5), 0);
        CHECKS.refused("total -1", ARGUMENT, StateTest::village, x -> x.total(-1));
        CHECKS.refused("total 7", ARGUMENT, StateTest::village, x -> x.total(7));
    }
}
