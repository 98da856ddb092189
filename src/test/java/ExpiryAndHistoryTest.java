import java.util.NoSuchElementException;

/** Promises 42 to 54: expiry, breakage, the order, the log and the history. */
public final class ExpiryAndHistoryTest {
    private static final Checks CHECKS = new Checks();
    private static final Class<?> INDEX = IndexOutOfBoundsException.class;
    private static final Class<?> ARGUMENT = IllegalArgumentException.class;
    private static final Class<?> STATE = IllegalStateException.class;
    private static final Class<?> ELEMENT = NoSuchElementException.class;

    public static void main(String[] args) {
        promise42ExpiringWithin();
        promise43NextExpiry();
        promise44RedeemedWith();
        promise45To47Breakage();
        promise45Greatest();
        promise48RankedMember();
        promise49And50Log();
        promise50Wrong();
        promise51And52Undo();
        promise51EveryChange();
        promise53And54SaveAndRestore();
        CHECKS.finish("ExpiryAndHistoryTest");
    }

    /** m and n live in x with a share of 50; o does not; on day 2 of a life of 10. */
    private static PointsLedger cottage() {
        PointsLedger l = Checks.loaded("category c 10 0;member m;member n;member o;house x 50;life 10");
        l.join(0, 0);
        l.join(1, 0);
        l.purchase(0, 0, 1000);
        l.advance(2);
        l.purchase(0, 0, 200);
        l.purchase(1, 0, 400);
        return l;
    }

    private static void promise42ExpiringWithin() {
        PointsLedger l = cottage();
        int[][] due = {{0, 0}, {7, 0}, {8, 50}, {9, 50}, {10, 60}, {2000, 60}};
        for (int[] row : due) {
            CHECKS.equal("expiring within " + row[0], l.expiringWithin(0, row[0]), row[1]);
        }
        CHECKS.equal("of another", l.expiringWithin(1, 10), 20);
        CHECKS.equal("of nothing", l.expiringWithin(2, 2000), 0);
        l.advance(10);
        CHECKS.equal("expired", l.expiringWithin(0, 2000), 0);
        CHECKS.refused("expiring: member -1", INDEX, ExpiryAndHistoryTest::cottage,
                x -> x.expiringWithin(-1, 0));
        CHECKS.refused("expiring: member first", INDEX, ExpiryAndHistoryTest::cottage,
                x -> x.expiringWithin(3, -1));
        CHECKS.refused("expiring -1", ARGUMENT, ExpiryAndHistoryTest::cottage,
                x -> x.expiringWithin(0, -1));
        CHECKS.refused("expiring 2001", ARGUMENT, ExpiryAndHistoryTest::cottage,
                x -> x.expiringWithin(0, 2001));
    }

    private static void promise43NextExpiry() {
        PointsLedger l = cottage();
        CHECKS.equal("of m", l.nextExpiry(0), 10);
        CHECKS.equal("of n, in the pool", l.nextExpiry(1), 10);
        l.redeem(0, 60);
        CHECKS.equal("of m, in the pool alone", l.nextExpiry(0), 10);
        l.redeem(0, 50);
        CHECKS.equal("the next one", l.nextExpiry(0), 12);
        l.leave(1);
        l.redeem(0, 10);
        CHECKS.same("m has none", Checks.outcome(l, x -> x.nextExpiry(0)), ELEMENT.getName());
        CHECKS.equal("of n, in the account alone", l.nextExpiry(1), 12);
        l.advance(1);
        l.setShare(0, 0);
        l.purchase(0, 0, 10);
        l.transfer(1, 0, 1);
        l.join(1, 0);
        CHECKS.equal("the smallest of all", l.nextExpiry(0), 12);
        PointsLedger later = cottage();
        later.transfer(0, 2, 55);
        CHECKS.equal("the account is later than the pool", later.nextExpiry(0), 10);
        CHECKS.equal("of o", later.nextExpiry(2), 10);
        CHECKS.refused("next: member -1", INDEX, ExpiryAndHistoryTest::cottage, x -> x.nextExpiry(-1));
        CHECKS.refused("next: member 3", INDEX, ExpiryAndHistoryTest::cottage, x -> x.nextExpiry(3));
        CHECKS.refused("next of none", ELEMENT, ExpiryAndHistoryTest::cottage, x -> x.nextExpiry(2));
    }

    private static void promise44RedeemedWith() {
        PointsLedger l = Checks.loaded("category c 10 0;member m;member n;life 7");
        int[] parts = {0, 1, 2, 4, 5, 7, 8};
        int[] due = new int[10];
        l.purchase(0, 0, 10000);
        for (int day = 0; day < 7; day++) {
            l.redeem(0, 10 + day);
            due[parts[day]] += 10 + day;
            if (day < 6) {
                l.advance(1);
            }
        }
        l.transfer(0, 1, 100);
        l.redeem(1, 3);
        due[8] += 3;
        for (int part = 0; part <= 9; part++) {
            CHECKS.equal("redeemed with part " + part, l.redeemedWith(part), due[part]);
        }
        PointsLedger day = Checks.loaded("category c 10 0;member m;life 1");
        day.purchase(0, 0, 100);
        day.redeem(0, 10);
        CHECKS.equal("a life of one day", day.redeemedWith(0), 10);
        PointsLedger year = Checks.loaded("category c 10 0;member m;life 1000");
        year.purchase(0, 0, 100);
        year.advance(400);
        year.advance(400);
        year.advance(199);
        year.redeem(0, 10);
        CHECKS.equal("the last day of the longest life", year.redeemedWith(9), 10);
        CHECKS.refused("part -1", ARGUMENT, ExpiryAndHistoryTest::cottage, x -> x.redeemedWith(-1));
        CHECKS.refused("part 10", ARGUMENT, ExpiryAndHistoryTest::cottage, x -> x.redeemedWith(10));
    }

    private static void promise45To47Breakage() {
        PointsLedger one = Checks.loaded("category c 10 0;member m;life 1");
        one.purchase(0, 0, 10);
        one.advance(1);
        one.purchase(0, 0, 70);
        CHECKS.equal("one expired point, none redeemed", one.breakage(0), 7);
        PointsLedger l = cottage();
        CHECKS.equal("without experience", l.breakage(0), 0);
        CHECKS.equal("of the pool", l.poolBreakage(0), 0);
        CHECKS.equal("of all", l.totalBreakage(), 0);
        l.redeem(1, 15);
        CHECKS.equal("nothing expired", l.totalBreakage(), 0);
        l.advance(2);
        l.redeem(0, 20);
        l.advance(6);
        CHECKS.equal("expired", l.total(2), 80);
        // Redeemed: 15 with part 0, 20 with part 4; part 8 is the present one of day 12.
        CHECKS.equal("no such late redemption: m", l.breakage(0), 10);
        CHECKS.equal("n", l.breakage(1), 5);
        CHECKS.equal("the pool", l.poolBreakage(0), 30);
        CHECKS.equal("all", l.totalBreakage(), 45);
        l.redeem(0, 5);
        l.purchase(2, 0, 990);
        CHECKS.equal("5 * 80 / 85", l.breakage(0), 4);
        CHECKS.equal("n with 5 * 80 / 85", l.breakage(1), 4);
        CHECKS.equal("10 and 20 of 80 / 85", l.poolBreakage(0), 9 + 18);
        CHECKS.equal("a new one with all: 99 * 80 / 120", l.breakage(2), 66);
        CHECKS.equal("together", l.totalBreakage(), 4 + 4 + 27 + 66);
        l.advance(2);
        CHECKS.equal("in the account of nobody", l.breakage(0), 0);
        CHECKS.equal("later: 99 * 120 / 145", l.breakage(2), 99 * 120 / 145);
        for (int number : new int[] {-1, 3, Integer.MIN_VALUE, Integer.MAX_VALUE}) {
            CHECKS.refused("breakage", INDEX, ExpiryAndHistoryTest::cottage, x -> x.breakage(number));
            CHECKS.refused("poolBreakage", INDEX, ExpiryAndHistoryTest::cottage,
                    x -> x.poolBreakage(number));
        }
        CHECKS.refused("poolBreakage 1", INDEX, ExpiryAndHistoryTest::cottage, x -> x.poolBreakage(1));
    }

    /** Numbers whose product does not fit into 32 bits. */
    private static void promise45Greatest() {
        String text = "tier a 0 300;category c 50 0;member m;life 2;" + "promo c 0 99 500;".repeat(8);
        PointsLedger l = Checks.loaded(text.substring(0, text.length() - 1));
        l.purchase(0, 0, 100000);
        l.advance(2);
        for (int i = 0; i < 100; i++) {
            l.purchase(0, 0, 100000);
        }
        CHECKS.equal("all would expire", l.breakage(0), 220000000);
        l.redeem(0, 100000000);
        CHECKS.equal("with as many redeemed", l.breakage(0),
                120000000L * 2200000L / (2200000L + 100000000L));
    }

    private static void promise48RankedMember() {
        PointsLedger l = Checks.loaded("tier a 0 0;tier b 100 0;category c 10 0;house x 100;"
                + "member zoe;member annab;member ann;member bob;member anna;member yan");
        order(l, 2, 4, 1, 3, 5, 0);
        l.purchase(3, 0, 500);
        order(l, 3, 2, 4, 1, 5, 0);
        l.purchase(5, 0, 500);
        order(l, 3, 5, 2, 4, 1, 0);
        l.purchase(5, 0, 10);
        order(l, 5, 3, 2, 4, 1, 0);
        l.join(0, 0);
        l.purchase(0, 0, 1000);
        order(l, 0, 5, 3, 2, 4, 1);
        l.transfer(5, 4, 51);
        order(l, 0, 4, 3, 2, 1, 5);
        l.transfer(3, 0, 50);
        order(l, 0, 4, 2, 1, 3, 5);
        l.purchase(3, 0, 600);
        order(l, 3, 0, 4, 2, 1, 5);
        l.transfer(3, 0, 20);
        order(l, 0, 3, 4, 2, 1, 5);
        CHECKS.refused("rank -1", INDEX, ExpiryAndHistoryTest::cottage, x -> x.rankedMember(-1));
        CHECKS.refused("rank 3", INDEX, ExpiryAndHistoryTest::cottage, x -> x.rankedMember(3));
        CHECKS.refused("nobody", INDEX, PointsLedger::new, x -> x.rankedMember(0));
    }

    private static void order(PointsLedger l, int... due) {
        for (int index = 0; index < due.length; index++) {
            CHECKS.equal("rank " + index, l.rankedMember(index), due[index]);
        }
    }

    private static void promise49And50Log() {
        PointsLedger l = cottage();
        CHECKS.equal("three purchases", l.logSize(), 3);
        int[][] due = {{0, 2, 1, 40}, {0, 2, 0, 20}, {0, 0, 0, 100}};
        for (int index = 0; index < 3; index++) {
            for (int what = 0; what <= 3; what++) {
                CHECKS.equal("log " + index + " " + what, l.log(index, what), due[index][what]);
            }
        }
        l.setShare(0, 50);
        l.leave(0);
        l.join(0, 0);
        l.save();
        CHECKS.equal("no entry for these", l.logSize(), 3);
        l.redeem(1, 7);
        l.transfer(1, 2, 5);
        l.refund(1);
        l.advance(8);
        int[][] more = {{4, 10, 0, 100}, {1, 2, 0, 20}, {3, 2, 1, 5}, {2, 2, 1, 7}};
        for (int index = 0; index < 4; index++) {
            for (int what = 0; what <= 3; what++) {
                CHECKS.equal("then log " + index + " " + what, l.log(index, what), more[index][what]);
            }
        }
        for (int i = 8; i <= 30; i++) {
            l.purchase(2, 0, i);
            CHECKS.equal("entries", l.logSize(), i);
        }
        CHECKS.equal("the first one is the last", l.log(29, 3), 100);
        l.purchase(2, 0, 770);
        CHECKS.equal("not more than 30", l.logSize(), 30);
        CHECKS.equal("the latest", l.log(0, 3), 77);
        CHECKS.equal("the oldest", l.log(29, 3), 20);
        l.undo();
        CHECKS.equal("the first is back", l.log(29, 3), 100);
    }

    private static void promise50Wrong() {
        CHECKS.refused("entry -1", INDEX, ExpiryAndHistoryTest::cottage, x -> x.log(-1, 0));
        CHECKS.refused("entry 3", INDEX, ExpiryAndHistoryTest::cottage, x -> x.log(3, 0));
        CHECKS.refused("entry first", INDEX, ExpiryAndHistoryTest::cottage, x -> x.log(3, 4));
        CHECKS.refused("entry part -1", ARGUMENT, ExpiryAndHistoryTest::cottage, x -> x.log(0, -1));
        CHECKS.refused("entry part 4", ARGUMENT, ExpiryAndHistoryTest::cottage, x -> x.log(0, 4));
        CHECKS.refused("no entry", INDEX, PointsLedger::new, x -> x.log(0, 0));
    }

    private static void promise51And52Undo() {
        PointsLedger l = Checks.loaded("category c 10 0;member m");
        CHECKS.refused("nothing to undo", STATE, PointsLedger::new, PointsLedger::undo);
        CHECKS.refused("nothing but a setup", STATE, () -> Checks.loaded("member m"),
                PointsLedger::undo);
        for (int i = 1; i <= 12; i++) {
            l.purchase(0, 0, 10 * i);
            CHECKS.equal("changes to undo", l.undoCount(), Math.min(i, 8));
        }
        l.save();
        for (int i = 7; i >= 5; i--) {
            CHECKS.equal("undo", l.undo(), i);
            CHECKS.equal("still to undo", l.undoCount(), i);
            CHECKS.equal("purchases", l.purchaseCount(), 4 + i);
            CHECKS.equal("the latest", l.log(0, 3), 4 + i);
        }
        l.advance(3);
        CHECKS.equal("another change", l.undoCount(), 6);
        Checks.type(l, "abc");
        for (int i = 5; i >= 0; i--) {
            CHECKS.equal("undo again", l.undo(), i);
        }
        CHECKS.equal("the balance of four", l.balance(0), 1 + 2 + 3 + 4);
        CHECKS.equal("the first day", l.today(), 0);
        CHECKS.equal("the buffer is not undone", l.append(0, 0, 0, 0, 0), 3);
        CHECKS.same("not more", Checks.outcome(l, PointsLedger::undo), STATE.getName());
        CHECKS.equal("the copy is not undone", l.restore() + l.purchaseCount(), 12);
        l.purchase(0, 0, 10);
        Checks.outcome(l, x -> x.purchase(0, 0, 0));
        CHECKS.equal("a failed call is no change", l.undoCount(), 1);
    }

    /** m owes 30, n has 30 and 40 points, day 1; both live in x. */
    private static PointsLedger rich() {
        PointsLedger l = Checks.loaded("tier a 0 0;tier b 10 30;category c 10 0;member m;member n;member o;"
                + "house x 50;house y 7;life 3;window 2");
        l.purchase(0, 0, 300);
        l.redeem(0, 30);
        l.join(0, 0);
        l.join(1, 0);
        l.refund(0);
        l.purchase(1, 0, 600);
        l.advance(1);
        l.purchase(1, 0, 800);
        return l;
    }

    private static void promise51EveryChange() {
        undone("purchase", x -> x.purchase(0, 0, 9999));
        undone("refund", x -> x.refund(1));
        undone("redeem", x -> x.redeem(1, 95));
        undone("transfer", x -> x.transfer(1, 0, 60));
        undone("join", x -> x.join(2, 1));
        undone("leave", x -> x.leave(1));
        undone("setShare", x -> x.setShare(0, 99));
        undoneStanding();
        undone("setShare without effect", x -> x.setShare(0, 50));
        undone("advance", x -> x.advance(9));
        PointsLedger l = rich();
        l.setShare(1, 99);
        l.undo();
        CHECKS.equal("the share is back", l.setShare(1, 0), 7);
    }

    /** What a member's tier depends on comes back too: the day below, and the window. */
    private static void undoneStanding() {
        PointsLedger l = Checks.loaded("tier a 0 0;tier b 10 0;category c 10 0;member m;window 2;grace 5");
        l.purchase(0, 0, 100);
        l.save();
        l.advance(3);
        CHECKS.equal("below", l.belowSince(0), 2);
        l.undo();
        CHECKS.equal("not below", l.belowSince(0), -1);
        CHECKS.equal("qualifying", l.qualifying(0), 10);
        l.refund(0);
        CHECKS.equal("refunded in the window", l.qualifying(0), 0);
        l.undo();
        l.advance(3);
        l.restore();
        CHECKS.equal("restored", l.belowSince(0), -1);
        l.refund(0);
        CHECKS.equal("refunded in the restored window", l.qualifying(0), 0);
    }

    private static void undone(String what, Checks.Call call) {
        String before = Picture.ofPresent(rich());
        PointsLedger l = rich();
        call.on(l);
        CHECKS.equal(what + " is a change", l.undoCount(), 8);
        CHECKS.equal(what + " is undone", l.undo(), 7);
        CHECKS.same(what + " leaves nothing", Picture.ofPresent(l), before);
        PointsLedger once = rich();
        CHECKS.same(what + " again", Checks.outcome(l, call), Checks.outcome(once, call));
        CHECKS.same("after " + what + " again", Picture.ofPresent(l), Picture.ofPresent(once));
    }

    private static void promise53And54SaveAndRestore() {
        String saved = Picture.ofPresent(rich());
        PointsLedger l = rich();
        CHECKS.equal("save", l.save(), 1);
        CHECKS.equal("no change", l.undoCount(), 8);
        CHECKS.same("nothing changes by it", Picture.ofPresent(l), saved);
        l.advance(4);
        l.purchase(2, 0, 1000);
        l.leave(0);
        l.setShare(0, 3);
        Checks.type(l, "abcd");
        CHECKS.equal("restore", l.restore(), 1);
        CHECKS.equal("the history is cleared", l.undoCount(), 0);
        CHECKS.equal("the buffer stays", l.append(0, 0, 0, 0, 0), 4);
        CHECKS.same("all is as it was", Picture.ofPresent(l), saved);
        CHECKS.equal("the share too", l.setShare(0, 1), 50);
        CHECKS.same("nothing behind it", Checks.outcome(l, PointsLedger::undo), "0");
        int next = l.purchaseCount();
        l.purchase(1, 0, 70);
        l.refund(next);
        l.restore();
        l.purchase(1, 0, 70);
        CHECKS.equal("the refund is gone", l.purchasePart(next, 6), 0);
        l.advance(400);
        CHECKS.equal("the copy is kept", l.restore(), 1);
        CHECKS.same("all is as it was again", Picture.BOOKS.of(l), Picture.BOOKS.of(rich()));
        l.advance(5);
        CHECKS.equal("save later", l.save(), 6);
        l.undo();
        CHECKS.equal("in place of the earlier copy", l.restore(), 6);
        CHECKS.refused("no copy", STATE, ExpiryAndHistoryTest::rich, PointsLedger::restore);
        CHECKS.refused("no copy after a load", STATE, ExpiryAndHistoryTest::loadedAfterSave,
                PointsLedger::restore);
        CHECKS.equal("save a new one", new PointsLedger().save(), 0);
    }

    private static PointsLedger loadedAfterSave() {
        PointsLedger l = rich();
        l.save();
        Checks.type(l, "member m");
        l.load();
        return l;
    }
}
