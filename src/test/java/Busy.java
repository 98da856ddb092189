/**
 * A ledger in which something of everything has happened, within some 90 calls: so that a
 * refused call would find something to change.
 */
final class Busy {
    /** Members 0 to 3 live in home, 4 in hut, 5 in none. */
    static final String TEXT = "tier base 0 10;tier gold 60 50;tier plat 150 100;"
            + "category food 10 0;category fuel 5 40;category toys 50 100000;"
            + "promo food 3 9 100;promo toys 5 5 500;"
            + "member ann;member bob;member cy;member dee;member eve;member fay;"
            + "house home 40;house hut 15;life 20;window 6;grace 4";
    static final int MEMBERS = 6;
    static final int CATEGORIES = 3;
    static final int HOUSES = 2;

    private Busy() {
    }

    static PointsLedger ledger() {
        PointsLedger l = Checks.loaded(TEXT);
        for (int member = 0; member < 4; member++) {
            l.join(member, 0);
        }
        l.join(4, 1);
        for (int i = 0; i < 24; i++) {
            l.purchase(i % MEMBERS, i % CATEGORIES, 300 + 41 * i);
        }
        l.refund(1);
        l.refund(5);
        l.advance(5);
        for (int i = 0; i < 18; i++) {
            l.purchase(i * 5 % MEMBERS, i % 2, 90 + 31 * i);
        }
        l.redeem(4, l.available(4));
        l.refund(22);
        l.refund(40);
        l.save();
        l.advance(3);
        l.purchase(0, 0, 700);
        l.redeem(0, 33);
        l.transfer(1, 2, 44);
        l.setShare(1, 60);
        l.purchase(3, 2, 90);
        l.refund(43);
        l.advance(1);
        l.leave(2);
        l.join(2, 0);
        Checks.type(l, "bob");
        return l;
    }

    /** What this ledger must have, so that the tests on it mean something. */
    static void check(Checks checks) {
        PointsLedger l = ledger();
        checks.equal("busy: changes to undo", l.undoCount(), 8);
        checks.equal("busy: a full log", l.logSize(), 30);
        checks.equal("busy: purchases, of which 4 are not kept", l.purchaseCount(), 44);
        checks.equal("busy: a full household", l.members(0), 15);
        checks.equal("busy: one member in the other", l.members(1), 16);
        checks.equal("busy: in none", l.household(5), PointsLedger.NONE);
        checks.equal("busy: a debt", l.debt(4) > 0 ? 1 : 0, 1);
        int below = 0;
        int above = 0;
        for (int member = 0; member < MEMBERS; member++) {
            below += l.belowSince(member) != PointsLedger.NONE ? 1 : 0;
            above += l.tier(member) > 0 ? 1 : 0;
        }
        checks.equal("busy: some are below", below > 0 ? 1 : 0, 1);
        checks.equal("busy: some have a tier", above > below ? 1 : 0, 1);
        checks.equal("busy: points in the pool of home", l.poolBalance(0) > 100 ? 1 : 0, 1);
        checks.equal("busy: points of fay", l.balance(5) > 0 ? 1 : 0, 1);
        checks.equal("busy: a later day", l.today(), 9);
        checks.equal("busy: an earlier copy", l.restore(), 5);
    }
}
