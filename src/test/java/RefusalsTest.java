import java.util.NoSuchElementException;
import java.util.function.Supplier;

/**
 * "A call that throws an exception changes nothing": each way in which a call of the promises
 * 7 to 54 can be refused, with the exception that is due, the order in which things are
 * checked, and what all views of the ledger show afterwards.
 */
public final class RefusalsTest {
    private static final Checks CHECKS = new Checks();
    private static final Class<?> INDEX = IndexOutOfBoundsException.class;
    private static final Class<?> ARGUMENT = IllegalArgumentException.class;
    private static final Class<?> STATE = IllegalStateException.class;
    private static final Class<?> ELEMENT = NoSuchElementException.class;

    // Behind the twelve accounts that there can be there may be pools, and accounts before them.
    private static final int[] NO_MEMBER = {-1, Busy.MEMBERS, 11, 12, 15, 16, Integer.MIN_VALUE,
        Integer.MAX_VALUE};
    private static final int[] NO_CATEGORY = around(Busy.CATEGORIES);
    private static final int[] NO_HOUSE = {-1, Busy.HOUSES, 3, 4, -12, -8, Integer.MIN_VALUE,
        Integer.MAX_VALUE};
    private static final int[] NO_CENTS = {0, -1, 100001, Integer.MIN_VALUE, Integer.MAX_VALUE};
    private static final int[] NO_POINTS = {0, -1, Integer.MIN_VALUE};

    public static void main(String[] args) {
        Busy.check(CHECKS);
        purchase();
        refund();
        redeem();
        transfer();
        join();
        leave();
        setShare();
        advance();
        advanceBeyondTheLastDay();
        setup();
        members();
        households();
        cohorts();
        poolCohorts();
        tiers();
        earning();
        bestCategoryAndLeastCents();
        purchaseParts();
        expiry();
        log();
        undo();
        restore();
        CHECKS.finish("RefusalsTest");
    }

    /** What is beside the numbers from 0 to below a count. */
    private static int[] around(int count) {
        return new int[] {-1, count, Integer.MIN_VALUE, Integer.MAX_VALUE};
    }

    private static void busy(String what, Class<?> due, Checks.Call call) {
        CHECKS.refused(what, due, Busy::ledger, call);
    }

    private static PointsLedger poor() {
        return Checks.loaded("member ann;member bob;house home 40");
    }

    private static void purchase() {
        for (int member : NO_MEMBER) {
            busy("purchase by " + member, INDEX, l -> l.purchase(member, 0, 100));
            busy("purchase by " + member + ", all wrong", INDEX, l -> l.purchase(member, -1, 0));
        }
        for (int category : NO_CATEGORY) {
            busy("purchase in " + category, INDEX, l -> l.purchase(0, category, 100));
            busy("purchase in " + category + " of 0", INDEX, l -> l.purchase(5, category, 0));
        }
        for (int cents : NO_CENTS) {
            busy("purchase for " + cents, ARGUMENT, l -> l.purchase(5, 2, cents));
            busy("purchase by 6 for " + cents, INDEX, l -> l.purchase(6, 2, cents));
        }
        CHECKS.refused("purchase without categories", INDEX, RefusalsTest::poor,
                l -> l.purchase(0, 0, 100));
        CHECKS.refused("purchase without members", INDEX, () -> Checks.loaded("category c 1 0"),
                l -> l.purchase(0, 0, 100));
    }

    /** Purchases 0 to 3 are not kept any more, 5 and 43 have been refunded, 44 is none. */
    private static void refund() {
        for (int purchase : new int[] {-1, 44, 45, Integer.MIN_VALUE, Integer.MAX_VALUE}) {
            busy("refund of " + purchase, ELEMENT, l -> l.refund(purchase));
        }
        busy("refund of what is not kept", ELEMENT, l -> l.refund(0));
        busy("refund of the latest that is not kept", ELEMENT, l -> l.refund(3));
        busy("refund of what is refunded and not kept", ELEMENT, l -> l.refund(1));
        busy("refund of what is refunded", STATE, l -> l.refund(5));
        busy("refund of the latest, refunded one", STATE, l -> l.refund(43));
        CHECKS.refused("refund of nothing", ELEMENT, RefusalsTest::poor, l -> l.refund(0));
        CHECKS.equal("refund of the oldest that is kept", Busy.ledger().refund(4) >= 0 ? 1 : 0, 1);
        CHECKS.equal("refund of the latest but one", Busy.ledger().refund(42) >= 0 ? 1 : 0, 1);
    }

    private static void redeem() {
        for (int member : NO_MEMBER) {
            busy("redeem by " + member, INDEX, l -> l.redeem(member, 1));
            busy("redeem 0 by " + member, INDEX, l -> l.redeem(member, 0));
        }
        for (int points : NO_POINTS) {
            busy("redeem " + points, ARGUMENT, l -> l.redeem(0, points));
            CHECKS.refused("redeem " + points + " of none", ARGUMENT, RefusalsTest::poor,
                    l -> l.redeem(0, points));
        }
        for (int member = 0; member < Busy.MEMBERS; member++) {
            int m = member;
            int all = Busy.ledger().available(m);
            busy("redeem one too many by " + m, STATE, l -> l.redeem(m, all + 1));
            CHECKS.equal("redeem all by " + m, all == 0 || Busy.ledger().redeem(m, all) >= 0 ? 1 : 0, 1);
        }
        busy("redeem the greatest number", STATE, l -> l.redeem(0, Integer.MAX_VALUE));
        CHECKS.refused("redeem 1 of none", STATE, RefusalsTest::poor, l -> l.redeem(0, 1));
    }

    private static void transfer() {
        for (int member : NO_MEMBER) {
            busy("transfer from " + member, INDEX, l -> l.transfer(member, 0, 1));
            busy("transfer to " + member, INDEX, l -> l.transfer(0, member, 1));
            busy("transfer of 0 to " + member, INDEX, l -> l.transfer(0, member, 0));
            busy("transfer of 0 from " + member + " to the same", INDEX,
                    l -> l.transfer(member, member, 0));
            busy("transfer of too many to " + member, INDEX,
                    l -> l.transfer(0, member, Integer.MAX_VALUE));
        }
        for (int points : NO_POINTS) {
            busy("transfer of " + points, ARGUMENT, l -> l.transfer(0, 1, points));
            CHECKS.refused("transfer of " + points + " of none", ARGUMENT, RefusalsTest::poor,
                    l -> l.transfer(0, 1, points));
        }
        for (int member = 0; member < Busy.MEMBERS; member++) {
            int m = member;
            int other = (m + 1) % Busy.MEMBERS;
            int all = Busy.ledger().balance(m);
            busy("transfer from " + m + " to the same", ARGUMENT, l -> l.transfer(m, m, 1));
            busy("transfer of one too many from " + m, STATE, l -> l.transfer(m, other, all + 1));
            CHECKS.equal("transfer of all from " + m,
                    all == 0 || Busy.ledger().transfer(m, other, all) >= 0 ? 1 : 0, 1);
        }
        busy("transfer of too many to the same", ARGUMENT,
                l -> l.transfer(0, 0, Integer.MAX_VALUE));
        busy("transfer of the greatest number", STATE, l -> l.transfer(0, 5, Integer.MAX_VALUE));
        busy("transfer of what the pool has", STATE, l -> l.transfer(0, 5, l.balance(0) + 1));
        CHECKS.refused("transfer of 1 of none", STATE, RefusalsTest::poor, l -> l.transfer(0, 1, 1));
    }

    private static void join() {
        for (int member : NO_MEMBER) {
            busy("join by " + member, INDEX, l -> l.join(member, 1));
            busy("join the full one by " + member, INDEX, l -> l.join(member, 0));
        }
        for (int household : NO_HOUSE) {
            busy("join " + household, INDEX, l -> l.join(5, household));
            busy("join " + household + " from another", INDEX, l -> l.join(0, household));
        }
        busy("join a full household", STATE, l -> l.join(5, 0));
        busy("join a full household from another", STATE, l -> l.join(4, 0));
        busy("join another household", STATE, l -> l.join(0, 1));
        busy("join one's own household", STATE, l -> l.join(4, 1));
        busy("join one's own full household", STATE, l -> l.join(3, 0));
        CHECKS.refused("join where there are none", INDEX, () -> Checks.loaded("member m"),
                l -> l.join(0, 0));
    }

    private static void leave() {
        for (int member : NO_MEMBER) {
            busy("leave by " + member, INDEX, l -> l.leave(member));
        }
        busy("leave nothing", STATE, l -> l.leave(5));
        CHECKS.refused("leave again", STATE, RefusalsTest::left, l -> l.leave(0));
    }

    private static PointsLedger left() {
        PointsLedger l = Busy.ledger();
        l.leave(0);
        return l;
    }

    private static void setShare() {
        for (int household : NO_HOUSE) {
            busy("share of " + household, INDEX, l -> l.setShare(household, 50));
            busy("share 101 of " + household, INDEX, l -> l.setShare(household, 101));
        }
        for (int percent : new int[] {-1, 101, Integer.MIN_VALUE, Integer.MAX_VALUE}) {
            busy("share " + percent, ARGUMENT, l -> l.setShare(0, percent));
            busy("share " + percent + " of the last", ARGUMENT, l -> l.setShare(1, percent));
        }
    }

    private static void advance() {
        for (int days : new int[] {0, -1, 401, -400, Integer.MIN_VALUE, Integer.MAX_VALUE}) {
            busy("advance by " + days, ARGUMENT, l -> l.advance(days));
        }
        busy("advance by what wraps around", ARGUMENT, l -> l.advance(Integer.MAX_VALUE - 5));
    }

    /** "or the day would be greater than 9999" */
    private static void advanceBeyondTheLastDay() {
        CHECKS.refused("advance from 9600 by 400", ARGUMENT, () -> late(9600), l -> l.advance(400));
        CHECKS.equal("advance from 9600 by 399", late(9600).advance(399), 7);
        CHECKS.refused("advance from 9998 by 2", ARGUMENT, () -> late(9998), l -> l.advance(2));
        CHECKS.equal("advance from 9998 by 1", late(9998).advance(1), 0);
        CHECKS.refused("advance from 9999 by 1", ARGUMENT, () -> late(9999), l -> l.advance(1));
        CHECKS.refused("advance from 9999 by 400", ARGUMENT, () -> late(9999), l -> l.advance(400));
    }

    private static PointsLedger late(int day) {
        PointsLedger l = Checks.loaded("category c 10 0;member m;life 3");
        for (int left = day; left > 0; left -= Math.min(left, 400)) {
            l.advance(Math.min(left, 400));
        }
        l.purchase(0, 0, 70);
        return l;
    }

    private static void setup() {
        for (int what : around(8)) {
            busy("setup " + what, ARGUMENT, l -> l.setup(what));
        }
        for (int tier : around(3)) {
            busy("threshold " + tier, INDEX, l -> l.threshold(tier));
        }
        for (int category : NO_CATEGORY) {
            busy("extras of " + category, INDEX, l -> l.extras(category, 0));
            busy("extras of " + category + " on -1", INDEX, l -> l.extras(category, -1));
        }
        for (int day : around(10000)) {
            busy("extras on " + day, ARGUMENT, l -> l.extras(2, day));
        }
        for (int what : around(7)) {
            busy("total " + what, ARGUMENT, l -> l.total(what));
        }
        for (int part : around(10)) {
            busy("redeemed with " + part, ARGUMENT, l -> l.redeemedWith(part));
        }
    }

    private static void members() {
        for (int member : NO_MEMBER) {
            busy("balance of " + member, INDEX, l -> l.balance(member));
            busy("debt of " + member, INDEX, l -> l.debt(member));
            busy("available for " + member, INDEX, l -> l.available(member));
            busy("cohort count of " + member, INDEX, l -> l.cohortCount(member));
            busy("household of " + member, INDEX, l -> l.household(member));
            busy("contributed by " + member, INDEX, l -> l.contributed(member));
            busy("tier of " + member, INDEX, l -> l.tier(member));
            busy("earned tier of " + member, INDEX, l -> l.earnedTier(member));
            busy("qualifying of " + member, INDEX, l -> l.qualifying(member));
            busy("below since of " + member, INDEX, l -> l.belowSince(member));
            busy("to next tier of " + member, INDEX, l -> l.toNextTier(member));
            busy("next expiry of " + member, INDEX, l -> l.nextExpiry(member));
            busy("breakage of " + member, INDEX, l -> l.breakage(member));
            busy("rank " + member, INDEX, l -> l.rankedMember(member));
        }
    }

    private static void households() {
        for (int household : NO_HOUSE) {
            busy("members of " + household, INDEX, l -> l.members(household));
            busy("pool balance of " + household, INDEX, l -> l.poolBalance(household));
            busy("pool cohort count of " + household, INDEX, l -> l.poolCohortCount(household));
            busy("pool breakage of " + household, INDEX, l -> l.poolBreakage(household));
        }
    }

    private static void cohorts() {
        for (int member : NO_MEMBER) {
            busy("cohort of " + member, INDEX, l -> l.cohort(member, 0, 0));
            busy("part 2 of a cohort of " + member, INDEX, l -> l.cohort(member, 0, 2));
        }
        for (int member = 0; member < Busy.MEMBERS; member++) {
            int m = member;
            for (int index : around(Busy.ledger().cohortCount(m))) {
                busy("cohort " + index + " of " + m, INDEX, l -> l.cohort(m, index, 0));
                busy("part -1 of cohort " + index + " of " + m, INDEX, l -> l.cohort(m, index, -1));
            }
        }
        for (int what : around(2)) {
            busy("part " + what + " of a cohort", ARGUMENT, l -> l.cohort(5, 0, what));
        }
        CHECKS.refused("cohort of none", INDEX, RefusalsTest::poor, l -> l.cohort(0, 0, 0));
    }

    private static void poolCohorts() {
        for (int household : NO_HOUSE) {
            busy("pool cohort of " + household, INDEX, l -> l.poolCohort(household, 0, 0));
            busy("part 3 of a pool cohort of " + household, INDEX,
                    l -> l.poolCohort(household, 0, 3));
        }
        for (int household = 0; household < Busy.HOUSES; household++) {
            int h = household;
            for (int index : around(Busy.ledger().poolCohortCount(h))) {
                busy("pool cohort " + index + " of " + h, INDEX, l -> l.poolCohort(h, index, 0));
                busy("part -1 of pool cohort " + index + " of " + h, INDEX,
                        l -> l.poolCohort(h, index, -1));
            }
        }
        for (int what : around(3)) {
            busy("part " + what + " of a pool cohort", ARGUMENT, l -> l.poolCohort(0, 0, what));
        }
        CHECKS.refused("pool cohort of none", INDEX, RefusalsTest::poor, l -> l.poolCohort(0, 0, 0));
    }

    private static void tiers() {
        for (int member : NO_MEMBER) {
            busy("tier of " + member + " after 1", INDEX, l -> l.tierAfter(member, 1));
            busy("tier of " + member + " after -1", INDEX, l -> l.tierAfter(member, -1));
        }
        for (int days : around(2001)) {
            busy("tier after " + days, ARGUMENT, l -> l.tierAfter(5, days));
        }
        CHECKS.refused("to the tier behind the only one", ELEMENT, RefusalsTest::poor,
                l -> l.toNextTier(0));
        CHECKS.refused("to the tier behind the last one", ELEMENT, RefusalsTest::topped,
                l -> l.toNextTier(5));
        CHECKS.refused("to the tier behind the last one of nobody", INDEX, RefusalsTest::topped,
                l -> l.toNextTier(6));
    }

    private static PointsLedger topped() {
        PointsLedger l = Busy.ledger();
        l.purchase(5, 2, 300);
        return l;
    }

    private static void earning() {
        for (int member : NO_MEMBER) {
            busy("earn by " + member, INDEX, l -> l.wouldEarn(member, 0, 100));
            busy("earn by " + member + ", all wrong", INDEX, l -> l.wouldEarn(member, -1, 0));
        }
        for (int category : NO_CATEGORY) {
            busy("earn in " + category, INDEX, l -> l.wouldEarn(0, category, 100));
            busy("earn in " + category + " for 0", INDEX, l -> l.wouldEarn(5, category, 0));
        }
        for (int cents : NO_CENTS) {
            busy("earn for " + cents, ARGUMENT, l -> l.wouldEarn(5, 2, cents));
        }
    }

    private static void bestCategoryAndLeastCents() {
        for (int member : NO_MEMBER) {
            busy("best for " + member, INDEX, l -> l.bestCategory(member, 100));
            busy("best for " + member + " and 0", INDEX, l -> l.bestCategory(member, 0));
            busy("least for " + member, INDEX, l -> l.leastCents(member, 0, 1));
            busy("least for " + member + ", all wrong", INDEX, l -> l.leastCents(member, -1, 0));
        }
        for (int category : NO_CATEGORY) {
            busy("least in " + category, INDEX, l -> l.leastCents(0, category, 1));
            busy("least in " + category + " for 0", INDEX, l -> l.leastCents(5, category, 0));
        }
        for (int cents : NO_CENTS) {
            busy("best for " + cents, ARGUMENT, l -> l.bestCategory(5, cents));
            CHECKS.refused("best of none for " + cents, ARGUMENT, RefusalsTest::poor,
                    l -> l.bestCategory(0, cents));
        }
        for (int points : NO_POINTS) {
            busy("least for points " + points, ARGUMENT, l -> l.leastCents(5, 2, points));
        }
        CHECKS.refused("best of none", ELEMENT, RefusalsTest::poor, l -> l.bestCategory(0, 100));
        CHECKS.refused("best of none for nobody", INDEX, RefusalsTest::poor, l -> l.bestCategory(2, 1));
        for (int category = 0; category < Busy.CATEGORIES; category++) {
            int c = category;
            int most = Busy.ledger().wouldEarn(0, c, 100000);
            busy("least for one too many in " + c, ELEMENT, l -> l.leastCents(0, c, most + 1));
            busy("least for far too many in " + c, ELEMENT,
                    l -> l.leastCents(0, c, Integer.MAX_VALUE));
        }
    }

    private static void purchaseParts() {
        for (int purchase : new int[] {-1, 0, 3, 44, Integer.MIN_VALUE, Integer.MAX_VALUE}) {
            busy("part of purchase " + purchase, ELEMENT, l -> l.purchasePart(purchase, 0));
            busy("part 7 of purchase " + purchase, ELEMENT, l -> l.purchasePart(purchase, 7));
        }
        for (int what : around(7)) {
            busy("part " + what + " of the oldest", ARGUMENT, l -> l.purchasePart(4, what));
            busy("part " + what + " of the latest", ARGUMENT, l -> l.purchasePart(43, what));
        }
        CHECKS.refused("part of no purchase", ELEMENT, RefusalsTest::poor,
                l -> l.purchasePart(0, 0));
    }

    private static void expiry() {
        for (int member : NO_MEMBER) {
            busy("expiring of " + member, INDEX, l -> l.expiringWithin(member, 0));
            busy("expiring of " + member + " within -1", INDEX, l -> l.expiringWithin(member, -1));
        }
        for (int days : around(2001)) {
            busy("expiring within " + days, ARGUMENT, l -> l.expiringWithin(5, days));
        }
        CHECKS.refused("next expiry of nothing", ELEMENT, RefusalsTest::poor, l -> l.nextExpiry(0));
        CHECKS.refused("next expiry of nobody's nothing", INDEX, RefusalsTest::poor,
                l -> l.nextExpiry(2));
        CHECKS.refused("next expiry behind the last one", ELEMENT, RefusalsTest::spent,
                l -> l.nextExpiry(5));
    }

    private static PointsLedger spent() {
        PointsLedger l = Busy.ledger();
        l.redeem(5, l.balance(5));
        return l;
    }

    private static void log() {
        for (int index : around(30)) {
            busy("log " + index, INDEX, l -> l.log(index, 0));
            busy("part 4 of log " + index, INDEX, l -> l.log(index, 4));
        }
        for (int what : around(4)) {
            busy("part " + what + " of the latest entry", ARGUMENT, l -> l.log(0, what));
            busy("part " + what + " of the oldest entry", ARGUMENT, l -> l.log(29, what));
        }
        CHECKS.refused("log of nothing", INDEX, RefusalsTest::poor, l -> l.log(0, 0));
        CHECKS.refused("log behind the only entry", INDEX, () -> late(1), l -> l.log(1, 0));
        CHECKS.refused("rank among nobody", INDEX, () -> Checks.loaded("life 1"),
                l -> l.rankedMember(0));
    }

    private static void undo() {
        CHECKS.refused("undo of nothing", STATE, RefusalsTest::poor, PointsLedger::undo);
        CHECKS.refused("undo of a ninth change", STATE, RefusalsTest::undone, PointsLedger::undo);
        CHECKS.refused("undo behind a restore", STATE, RefusalsTest::restored, PointsLedger::undo);
    }

    private static PointsLedger undone() {
        PointsLedger l = Busy.ledger();
        for (int i = 0; i < 8; i++) {
            l.undo();
        }
        return l;
    }

    private static PointsLedger restored() {
        PointsLedger l = Busy.ledger();
        l.restore();
        return l;
    }

    private static void restore() {
        Supplier<PointsLedger> unsaved = () -> Checks.loaded(Busy.TEXT);
        CHECKS.refused("restore nothing", STATE, unsaved, PointsLedger::restore);
        CHECKS.refused("restore nothing behind changes", STATE, RefusalsTest::changed,
                PointsLedger::restore);
    }

    private static PointsLedger changed() {
        PointsLedger l = Checks.loaded(Busy.TEXT);
        l.join(0, 0);
        l.purchase(0, 0, 5000);
        l.advance(3);
        return l;
    }
}
