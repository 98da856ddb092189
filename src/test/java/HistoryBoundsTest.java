/**
 * Each sentence of part 9 of "Terms" (the history), and of the promises 51 to 54, that names a
 * boundary case.
 */
public final class HistoryBoundsTest {
    private static final Checks CHECKS = new Checks();
    private static final Class<?> STATE = IllegalStateException.class;

    /** Each kind of change, as it can be made on the busy ledger. */
    private static final String[] KINDS = {"purchase", "refund", "redeem", "transfer", "join",
        "leave", "setShare", "advance"};
    private static final Checks.Call[] CHANGES = {l -> l.purchase(1, 2, 90000), l -> l.refund(42),
        l -> l.redeem(0, 40), l -> l.transfer(5, 4, 7), l -> l.join(5, 1), l -> l.leave(2),
        l -> l.setShare(0, 77), l -> l.advance(30)};

    /** What is no change, though it succeeds. */
    private static final Checks.Call[] OTHERS = {l -> l.append(0x61, 0, 0, 0, 0), l -> l.truncate(1),
        PointsLedger::errorPosition, PointsLedger::find, l -> l.setup(0), l -> l.threshold(0),
        l -> l.extras(0, 0), PointsLedger::today, l -> l.balance(0), l -> l.debt(0),
        l -> l.available(0), l -> l.cohortCount(0), l -> l.cohort(0, 0, 0), l -> l.household(0),
        l -> l.members(0), l -> l.poolBalance(0), l -> l.poolCohortCount(0),
        l -> l.poolCohort(0, 0, 0), l -> l.contributed(0), l -> l.total(0), l -> l.tier(0),
        l -> l.earnedTier(0), l -> l.qualifying(0), l -> l.belowSince(0), l -> l.toNextTier(5),
        l -> l.tierAfter(0, 2000), l -> l.wouldEarn(0, 0, 1), l -> l.bestCategory(0, 1),
        l -> l.leastCents(0, 0, 1), PointsLedger::purchaseCount, l -> l.purchasePart(43, 0),
        l -> l.expiringWithin(0, 2000), l -> l.nextExpiry(0), l -> l.redeemedWith(0),
        l -> l.breakage(0), l -> l.poolBreakage(0), PointsLedger::totalBreakage,
        l -> l.rankedMember(0), PointsLedger::logSize, l -> l.log(0, 0), PointsLedger::undoCount,
        PointsLedger::save};

    public static void main(String[] args) {
        changesAreCounted();
        changesWithoutEffect();
        othersAreNoChanges();
        othersChangeNothing();
        eightCanBeUndone();
        oneByOne();
        theNinthFallsOff();
        roundAndRound();
        eachKindIsUndone();
        allEightAreUndone();
        madeAgain();
        undoOfPurchaseAndRefund();
        undoOfTheLog();
        undoOfLeaveAndShare();
        undoOfDays();
        undoLeavesBufferAndCopy();
        refusedCallsAreNoChanges();
        savedDay();
        saveLeavesHistoryAndBuffer();
        saveInPlaceOfAnEarlierCopy();
        restoreIsEqual();
        restoreKeepsTheCopy();
        restoreForgetsRefunds();
        restoreLeavesTheBuffer();
        restoreClearsTheHistory();
        restoreAfterUndo();
        restoreWithoutCopy();
        CHECKS.finish("HistoryBoundsTest");
    }

    /** So many changes: the share of the household was 0, and is the number of changes. */
    private static PointsLedger changed(int changes) {
        PointsLedger l = Checks.loaded("category food 10 0;member ann;member bob;house h 0");
        for (int i = 1; i <= changes; i++) {
            l.setShare(0, i);
        }
        return l;
    }

    /** "The successful calls of the methods of the section "Changes" are changes" */
    private static void changesAreCounted() {
        PointsLedger l = Checks.loaded(Busy.TEXT);
        CHECKS.equal("none at first", l.undoCount(), 0);
        Checks.Call[] calls = {x -> x.purchase(0, 0, 900), x -> x.refund(0), x -> x.purchase(0, 0, 900),
            x -> x.redeem(0, 1), x -> x.transfer(0, 1, 1), x -> x.join(0, 0), x -> x.leave(0),
            x -> x.setShare(0, 1)};
        for (int i = 0; i < calls.length; i++) {
            calls[i].on(l);
            CHECKS.equal("changes behind call " + i, l.undoCount(), i + 1);
        }
        l = Checks.loaded(Busy.TEXT);
        l.advance(400);
        CHECKS.equal("many days are one change", l.undoCount(), 1);
        l.advance(1);
        CHECKS.equal("one day is one", l.undoCount(), 2);
    }

    /** "also if they have no effect" */
    private static void changesWithoutEffect() {
        PointsLedger l = Checks.loaded("category food 10 0;category none 0 0;member ann;house h 0");
        l.setShare(0, 0);
        CHECKS.equal("the same share", l.undoCount(), 1);
        l.purchase(0, 1, 1);
        CHECKS.equal("a purchase of no points", l.undoCount(), 2);
        l.refund(0);
        CHECKS.equal("its refund", l.undoCount(), 3);
        l.advance(1);
        CHECKS.equal("a day without expiry", l.undoCount(), 4);
        l.join(0, 0);
        l.leave(0);
        CHECKS.equal("leaving with nothing", l.undoCount(), 6);
        CHECKS.equal("undo the leaving", l.undo() * 0 + l.household(0), 0);
        l.undo();
        l.undo();
        CHECKS.equal("undo the day", l.today(), 0);
        l.undo();
        CHECKS.equal("undo the refund", l.purchasePart(0, 6), 0);
        CHECKS.equal("undo the purchase", l.undo(), 1);
        CHECKS.equal("no purchase", l.purchaseCount(), 0);
        CHECKS.equal("undo the share", l.undo(), 0);
        CHECKS.thrown("no more", STATE, l, PointsLedger::undo);
    }

    private static void othersAreNoChanges() {
        for (int i = 0; i < OTHERS.length; i++) {
            PointsLedger l = Busy.ledger();
            l.undo();
            OTHERS[i].on(l);
            CHECKS.equal("no change, call " + i, l.undoCount(), 7);
            CHECKS.equal("the latest change is the same, call " + i, l.undo(), 6);
            CHECKS.equal("which is cy's leaving, call " + i, l.household(2), 0);
        }
    }

    /** What only tells changes nothing; the first two and the last one of the list do more. */
    private static void othersChangeNothing() {
        for (int i = 2; i < OTHERS.length - 1; i++) {
            for (Picture view : Picture.values()) {
                PointsLedger l = Busy.ledger();
                OTHERS[i].on(l);
                CHECKS.same("call " + i + " changes nothing: " + view, view.of(l),
                        view.of(Busy.ledger()));
            }
        }
    }

    /** "The latest 8 changes can be undone", "Returns 0 to 8." */
    private static void eightCanBeUndone() {
        for (int changes = 0; changes <= 18; changes++) {
            CHECKS.equal("undo count of " + changes, changed(changes).undoCount(), Math.min(changes, 8));
        }
        CHECKS.refused("undo nothing", STATE, () -> changed(0), PointsLedger::undo);
    }

    /** "one by one", "Returns the number of changes that can still be undone." */
    private static void oneByOne() {
        PointsLedger l = changed(8);
        for (int left = 7; left >= 0; left--) {
            CHECKS.equal("undo", l.undo(), left);
            CHECKS.equal("undo count", l.undoCount(), left);
            CHECKS.equal("the share then", l.setShare(0, 50), left);
            CHECKS.equal("undo the change between", l.undo(), left);
        }
        CHECKS.thrown("undo a ninth", STATE, l, PointsLedger::undo);
        CHECKS.equal("the count stays", l.undoCount(), 0);
        CHECKS.equal("the first share", l.setShare(0, 9), 0);
        CHECKS.equal("a change behind all that", l.undoCount(), 1);
    }

    private static void theNinthFallsOff() {
        for (int changes : new int[] {8, 9, 10, 16, 17, 18}) {
            PointsLedger l = changed(changes);
            for (int i = 0; i < 8; i++) {
                l.undo();
            }
            CHECKS.thrown("nine of " + changes, STATE, l, PointsLedger::undo);
            CHECKS.equal("the share eight before " + changes, l.setShare(0, 50), changes - 8);
        }
        CHECKS.refused("a ninth of nine", STATE, HistoryBoundsTest::nineLessEight, PointsLedger::undo);
    }

    private static PointsLedger nineLessEight() {
        PointsLedger l = changed(9);
        for (int i = 0; i < 8; i++) {
            l.undo();
        }
        return l;
    }

    /** Changes and undoing in turns, so that what keeps them goes round several times. */
    private static void roundAndRound() {
        PointsLedger l = changed(0);
        int[] shares = new int[200];
        int depth = 0;
        int kept = 0;
        int next = 1;
        for (int round = 1; round <= 12; round++) {
            for (int i = 0; i < 3 + round % 5; i++) {
                shares[++depth] = next % 101;
                l.setShare(0, next % 101);
                next++;
                kept = Math.min(kept + 1, 8);
            }
            for (int i = 0; i < 1 + round % 4; i++) {
                CHECKS.equal("undo in round " + round, l.undo(), --kept);
                depth--;
            }
            CHECKS.equal("the share in round " + round, l.setShare(0, shares[depth]), shares[depth]);
            l.undo();
            kept = Math.min(kept, 7);
        }
    }

    /** "Undoes the latest change": in all views but those of the history itself. */
    private static void eachKindIsUndone() {
        for (int kind = 0; kind < KINDS.length; kind++) {
            for (Picture view : Picture.values()) {
                if (view != Picture.PAST) {
                    PointsLedger l = Busy.ledger();
                    CHANGES[kind].on(l);
                    CHECKS.equal(KINDS[kind] + " is undone", l.undo(), 7);
                    CHECKS.same(KINDS[kind] + " leaves nothing: " + view, view.of(l),
                            view.of(Busy.ledger()));
                }
            }
        }
    }

    /** Eight changes, each of another kind, are undone together. */
    private static void allEightAreUndone() {
        for (Picture view : Picture.values()) {
            PointsLedger l = Busy.ledger();
            for (Checks.Call change : CHANGES) {
                change.on(l);
            }
            for (int left = 7; left >= 0; left--) {
                l.undo();
            }
            if (view != Picture.PAST) {
                CHECKS.same("all leave nothing: " + view, view.of(l), view.of(Busy.ledger()));
            } else {
                CHECKS.thrown("what was before can't be undone", STATE, l, PointsLedger::undo);
            }
        }
    }

    /** A change that was undone can be made again, and brings the same. */
    private static void madeAgain() {
        for (int kind = 0; kind < KINDS.length; kind++) {
            for (Picture view : Picture.values()) {
                PointsLedger once = Busy.ledger();
                int due = CHANGES[kind].on(once);
                PointsLedger l = Busy.ledger();
                CHANGES[kind].on(l);
                l.undo();
                CHECKS.equal(KINDS[kind] + " again", CHANGES[kind].on(l), due);
                CHECKS.same(KINDS[kind] + " again brings the same: " + view, view.of(l), view.of(once));
            }
        }
    }

    private static void undoOfPurchaseAndRefund() {
        PointsLedger l = changed(0);
        l.purchase(0, 0, 100);
        l.redeem(0, 10);
        l.refund(0);
        CHECKS.equal("a debt", l.debt(0), 10);
        l.undo();
        CHECKS.equal("no debt", l.debt(0), 0);
        CHECKS.equal("not refunded", l.purchasePart(0, 6), 0);
        CHECKS.equal("it can be refunded", l.refund(0), 10);
        l.undo();
        l.undo();
        CHECKS.equal("the points are back", l.balance(0), 10);
        CHECKS.equal("nothing is redeemed", l.redeemedWith(0), 0);
        l.undo();
        CHECKS.equal("no purchase", l.purchaseCount(), 0);
        CHECKS.equal("nothing qualifies", l.qualifying(0), 0);
    }

    private static void undoOfTheLog() {
        PointsLedger l = changed(0);
        for (int i = 1; i <= 35; i++) {
            l.purchase(0, 0, 10 * i);
        }
        for (int i = 0; i < 5; i++) {
            CHECKS.equal("30 entries of more", l.logSize(), 30);
            CHECKS.equal("the oldest entry", l.log(29, 3), 6 - i);
            l.undo();
        }
        CHECKS.equal("30 purchases", l.logSize(), 30);
        CHECKS.equal("the first of 30", l.log(29, 3), 1);
        l.undo();
        CHECKS.equal("29 purchases", l.logSize(), 29);
        CHECKS.equal("the latest of 29", l.log(0, 3), 29);
    }

    private static void undoOfLeaveAndShare() {
        PointsLedger l = changed(0);
        l.setShare(0, 100);
        l.join(0, 0);
        l.purchase(0, 0, 100);
        l.leave(0);
        CHECKS.equal("left", l.balance(0), 10);
        l.undo();
        CHECKS.equal("there again", l.household(0), 0);
        CHECKS.pool("with the points", l, 0, 10, 365, 0);
        CHECKS.account("which are not in the account", l, 0);
        l.undo();
        l.undo();
        CHECKS.equal("not joined", l.members(0), 0);
        l.undo();
        CHECKS.equal("the first share", l.setShare(0, 5), 0);
    }

    /** The tiers, the windows and the days come back, and go on from there. */
    private static void undoOfDays() {
        PointsLedger l = Checks.loaded("category k 10 0;tier a 0 0;tier b 10 0;member m;life 5;"
                + "window 4;grace 2");
        l.purchase(0, 0, 100);
        l.advance(3);
        l.advance(400);
        CHECKS.equal("expired", l.total(2), 10);
        CHECKS.equal("the tier has gone", l.tier(0), 0);
        l.undo();
        CHECKS.equal("day 3", l.today(), 3);
        CHECKS.equal("the tier is back", l.tier(0), 1);
        CHECKS.equal("not below", l.belowSince(0), PointsLedger.NONE);
        CHECKS.equal("it qualifies", l.qualifying(0), 10);
        CHECKS.account("the points are back", l, 0, 10, 5);
        l.advance(1);
        CHECKS.equal("below since day 4", l.belowSince(0), 4);
        l.advance(2);
        CHECKS.equal("down on day 6", l.tier(0), 0);
        l.undo();
        l.undo();
        l.refund(0);
        CHECKS.equal("a refund in the window", l.qualifying(0), 0);
        CHECKS.equal("below since day 3", l.belowSince(0), 3);
    }

    private static void undoLeavesBufferAndCopy() {
        PointsLedger l = changed(2);
        Checks.type(l, "ann");
        l.save();
        l.setShare(0, 70);
        Checks.type(l, "a");
        l.undo();
        l.undo();
        CHECKS.equal("the buffer", l.append(0, 0, 0, 0, 0), 4);
        l.restore();
        CHECKS.equal("the copy", l.setShare(0, 9), 2);
    }

    private static void refusedCallsAreNoChanges() {
        Checks.Call[] calls = {x -> x.purchase(0, 0, 0), x -> x.refund(9), x -> x.redeem(0, 1),
            x -> x.transfer(0, 1, 1), x -> x.join(0, 1), x -> x.leave(0), x -> x.setShare(0, 101),
            x -> x.advance(401)};
        for (int changes : new int[] {0, 1, 7, 8, 9}) {
            PointsLedger l = changed(changes);
            for (Checks.Call call : calls) {
                Checks.outcome(l, call);
                CHECKS.equal("no change behind " + changes, l.undoCount(), Math.min(changes, 8));
            }
            if (changes > 0) {
                l.undo();
                CHECKS.equal("the latest of " + changes, l.setShare(0, 50), changes - 1);
            }
        }
    }

    /** Promise 53: "Returns the present day." */
    private static void savedDay() {
        CHECKS.equal("a new object", new PointsLedger().save(), 0);
        PointsLedger l = new PointsLedger();
        l.advance(399);
        CHECKS.equal("day 399", l.save(), 399);
        for (int i = 0; i < 24; i++) {
            l.advance(400);
        }
        CHECKS.equal("day 9999", l.save(), 9999);
        CHECKS.equal("restored", l.restore(), 9999);
        CHECKS.thrown("is the last day", IllegalArgumentException.class, l, x -> x.advance(1));
    }

    /** "everything but the input buffer and the history": these stay as they are. */
    private static void saveLeavesHistoryAndBuffer() {
        for (Picture view : Picture.values()) {
            if (view != Picture.COPY) {
                PointsLedger l = Busy.ledger();
                CHECKS.equal("save", l.save(), 9);
                CHECKS.same("save changes nothing else: " + view, view.of(l), view.of(Busy.ledger()));
            }
        }
    }

    /** "in place of an earlier copy" */
    private static void saveInPlaceOfAnEarlierCopy() {
        PointsLedger l = changed(3);
        l.purchase(0, 0, 100);
        l.save();
        l.setShare(0, 44);
        l.advance(2);
        CHECKS.equal("save again", l.save(), 2);
        l.purchase(0, 0, 100);
        CHECKS.equal("the later copy", l.restore(), 2);
        CHECKS.equal("its purchases", l.purchaseCount(), 1);
        CHECKS.equal("its share", l.setShare(0, 0), 44);
        PointsLedger less = changed(0);
        for (int i = 0; i < 5; i++) {
            less.purchase(0, 0, 100);
            less.advance(1);
        }
        less.save();
        less.undo();
        less.undo();
        less.save();
        less.purchase(1, 0, 700);
        less.restore();
        CHECKS.equal("a smaller copy: purchases", less.purchaseCount(), 4);
        CHECKS.account("a smaller copy: cohorts", less, 0, 10, 365, 10, 366, 10, 367, 10, 368);
        CHECKS.account("a smaller copy: bob", less, 1);
    }

    /** Promise 54: "Makes everything but the input buffer equal to the saved copy" */
    private static void restoreIsEqual() {
        Picture[] views = {Picture.BOOKS, Picture.FORECAST, Picture.PURCHASES, Picture.LOG,
            Picture.FUTURE};
        for (Picture view : views) {
            PointsLedger l = Busy.ledger();
            l.save();
            for (Checks.Call change : CHANGES) {
                change.on(l);
            }
            CHECKS.equal("the present day afterwards", l.restore(), 9);
            CHECKS.same("all is as it was saved: " + view, view.of(l), view.of(Busy.ledger()));
        }
    }

    /** "which is kept" */
    private static void restoreKeepsTheCopy() {
        for (Picture view : Picture.values()) {
            PointsLedger once = Busy.ledger();
            once.restore();
            PointsLedger l = Busy.ledger();
            l.restore();
            for (Checks.Call change : new Checks.Call[] {CHANGES[0], CHANGES[6], CHANGES[7]}) {
                change.on(l);
            }
            l.restore();
            CHECKS.same("restored twice: " + view, view.of(l), view.of(once));
        }
    }

    /** A purchase in the place of one that is gone has not been refunded. */
    private static void restoreForgetsRefunds() {
        PointsLedger l = changed(0);
        l.save();
        l.purchase(0, 0, 100);
        l.refund(0);
        l.restore();
        l.purchase(1, 0, 200);
        CHECKS.equal("behind a restore", l.purchasePart(0, 6), 0);
        CHECKS.equal("its points", l.purchasePart(0, 4), 20);
        CHECKS.equal("its refund", l.refund(0), 0);
        Checks.type(l, "category food 10 0;member ann");
        l.load();
        l.purchase(0, 0, 300);
        CHECKS.equal("behind a load", l.purchasePart(0, 6), 0);
        CHECKS.equal("it qualifies", l.qualifying(0), 30);
        CHECKS.equal("its refund, too", l.refund(0), 0);
        l.undo();
        l.undo();
        l.purchase(0, 0, 400);
        CHECKS.equal("behind an undo", l.purchasePart(0, 6), 0);
    }

    private static void restoreLeavesTheBuffer() {
        PointsLedger l = changed(1);
        Checks.type(l, "an");
        l.save();
        Checks.type(l, "n");
        l.restore();
        CHECKS.equal("the length stays", l.append(0, 0, 0, 0, 0), 3);
        CHECKS.equal("the text stays", l.find(), 0);
        l.truncate(0);
        l.restore();
        CHECKS.equal("no text comes back", l.append(0, 0, 0, 0, 0), 0);
    }

    /** "and clears the history" */
    private static void restoreClearsTheHistory() {
        PointsLedger l = changed(9);
        l.save();
        CHECKS.equal("saved with changes", l.undoCount(), 8);
        l.restore();
        CHECKS.equal("restored without", l.undoCount(), 0);
        CHECKS.thrown("nothing to undo", STATE, l, PointsLedger::undo);
        l.setShare(0, 60);
        CHECKS.equal("a change behind it", l.undoCount(), 1);
        CHECKS.equal("is undone", l.undo(), 0);
        CHECKS.equal("to what was restored", l.setShare(0, 1), 9);
    }

    private static void restoreAfterUndo() {
        PointsLedger l = changed(5);
        l.save();
        l.undo();
        l.undo();
        l.restore();
        CHECKS.equal("the saved share", l.setShare(0, 1), 5);
        CHECKS.equal("the only change", l.undoCount(), 1);
    }

    /** "if there is no copy" */
    private static void restoreWithoutCopy() {
        CHECKS.refused("no copy", STATE, () -> changed(9), PointsLedger::restore);
        CHECKS.refused("no copy of a new object", STATE, PointsLedger::new, PointsLedger::restore);
        PointsLedger l = changed(1);
        l.save();
        Checks.type(l, "member zoe;!");
        Checks.outcome(l, PointsLedger::load);
        CHECKS.equal("a load that was refused leaves the copy", l.restore(), 0);
        l.truncate(10);
        l.load();
        CHECKS.thrown("a load removes it", STATE, l, PointsLedger::restore);
        CHECKS.equal("save once more", l.save(), 0);
        CHECKS.equal("a copy again", l.restore(), 0);
    }
}
