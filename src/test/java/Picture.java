/**
 * The views of a ledger that is not too old: two ledgers that look the same in all of them are
 * the same. Some views use the ledger up, so each wants its own; on a ledger of some 90 calls
 * none makes so many that its 512 are over.
 */
enum Picture {
    /** The input buffer, and what stands in it. */
    INPUT {
        @Override
        void draw(Pen pen) {
            int length = pen.ledger.append(0, 0, 0, 0, 0);
            pen.say("length", length);
            pen.tell("error", PointsLedger::errorPosition);
            pen.tell("find", PointsLedger::find);
            for (int shorter = length - 1; shorter >= Math.max(0, length - 90); shorter--) {
                pen.ledger.truncate(shorter);
                pen.tell("error", PointsLedger::errorPosition);
                pen.tell("find", PointsLedger::find);
            }
        }
    },

    /** Days, accounts, pools, tiers and totals. */
    BOOKS {
        @Override
        void draw(Pen pen) {
            pen.books();
        }
    },

    /** What purchases would earn, and what days would bring. */
    FORECAST {
        @Override
        void draw(Pen pen) {
            pen.forecast();
        }
    },

    /** All purchases that are kept. */
    PURCHASES {
        @Override
        void draw(Pen pen) {
            int count = pen.ledger.purchaseCount();
            pen.say("purchases", count);
            for (int purchase = Math.max(0, count - 40); purchase < count; purchase++) {
                for (int what = 0; what <= 6; what++) {
                    pen.say("", pen.ledger.purchasePart(purchase, what));
                }
            }
        }
    },

    /** The whole log. */
    LOG {
        @Override
        void draw(Pen pen) {
            pen.log(30);
        }
    },

    /** What undoing all changes shows. */
    PAST {
        @Override
        void draw(Pen pen) {
            pen.say("to undo", pen.ledger.undoCount());
            for (int left = pen.ledger.undoCount(); left > 0; left--) {
                pen.tell("undo", PointsLedger::undo);
                pen.briefly();
            }
            pen.tell("undo", PointsLedger::undo);
            pen.briefly();
        }
    },

    /** The saved copy. */
    COPY {
        @Override
        void draw(Pen pen) {
            pen.tell("restore", PointsLedger::restore);
            pen.say("to undo", pen.ledger.undoCount());
            pen.books();
            pen.shares();
        }
    },

    /** What further changes bring: the shares, and what is under the windows and the debts. */
    FUTURE {
        @Override
        void draw(Pen pen) {
            pen.shares();
            pen.future();
        }
    };

    abstract void draw(Pen pen);

    String of(PointsLedger ledger) {
        Pen pen = new Pen(ledger);
        draw(pen);
        return pen.text.toString();
    }

    /** The views that leave the ledger as it is, together. */
    static String ofPresent(PointsLedger ledger) {
        return BOOKS.of(ledger) + FORECAST.of(ledger) + PURCHASES.of(ledger) + LOG.of(ledger);
    }

    private static final class Pen {
        final PointsLedger ledger;
        final StringBuilder text = new StringBuilder();

        Pen(PointsLedger ledger) {
            this.ledger = ledger;
        }

        void say(String name, int value) {
            text.append(name).append(' ').append(value).append(' ');
        }

        void tell(String name, Checks.Call call) {
            text.append(name).append(' ').append(Checks.outcome(ledger, call)).append(' ');
        }

        void books() {
            say("day", ledger.today());
            for (int what = 0; what <= 7; what++) {
                say("setup", ledger.setup(what));
            }
            for (int what = 0; what <= 6; what++) {
                say("total", ledger.total(what));
            }
            for (int part = 0; part <= 9; part++) {
                say("part", ledger.redeemedWith(part));
            }
            for (int member = 0; member < ledger.setup(3); member++) {
                member(member);
            }
            for (int household = 0; household < ledger.setup(4); household++) {
                household(household);
            }
            say("\npurchases", ledger.purchaseCount());
            say("entries", ledger.logSize());
        }

        private void member(int member) {
            say("\nmember", member);
            say("tier", ledger.tier(member));
            say("below", ledger.belowSince(member));
            say("qualifying", ledger.qualifying(member));
            say("debt", ledger.debt(member));
            say("home", ledger.household(member));
            for (int i = 0; i < ledger.cohortCount(member); i++) {
                say("points", ledger.cohort(member, i, 0));
                say("until", ledger.cohort(member, i, 1));
            }
        }

        private void household(int household) {
            say("\nhousehold", household);
            say("members", ledger.members(household));
            for (int i = 0; i < ledger.poolCohortCount(household); i++) {
                say("points", ledger.poolCohort(household, i, 0));
                say("until", ledger.poolCohort(household, i, 1));
                say("by", ledger.poolCohort(household, i, 2));
            }
        }

        void forecast() {
            for (int tier = 0; tier < ledger.setup(0); tier++) {
                say("threshold", ledger.threshold(tier));
            }
            for (int category = 0; category < ledger.setup(1); category++) {
                say("extras", ledger.extras(category, ledger.today()));
                say("extras later", ledger.extras(category, 5));
            }
            for (int member = 0; member < ledger.setup(3); member++) {
                int m = member;
                say("\nmember", m);
                tell("next tier", l -> l.toNextTier(m));
                tell("best", l -> l.bestCategory(m, 777));
                tell("next expiry", l -> l.nextExpiry(m));
                say("breakage", ledger.breakage(m));
                say("rank", ledger.rankedMember(m));
                for (int days = 2; days <= 8; days += 3) {
                    say("tier after", ledger.tierAfter(m, days));
                    say("expiring", ledger.expiringWithin(m, 3 * days));
                }
                for (int category = 0; category < ledger.setup(1); category++) {
                    say("earn", ledger.wouldEarn(m, category, 100000));
                }
            }
            say("breakage", ledger.totalBreakage());
        }

        void log(int most) {
            say("\nlog", ledger.logSize());
            int size = Math.min(ledger.logSize(), most);
            for (int index = 0; index < size; index++) {
                for (int what = 0; what <= 3; what++) {
                    say("", ledger.log(index, what));
                }
            }
        }

        /** Little enough to be said nine times, also with twelve members. */
        void briefly() {
            say("\nday", ledger.today());
            for (int what = 0; what <= 6; what++) {
                say("total", ledger.total(what));
            }
            int members = ledger.setup(3);
            for (int member = 0; member < members; member++) {
                say("balance", ledger.balance(member));
                say("tier", ledger.tier(member));
                say("home", ledger.household(member));
            }
            log(1);
        }

        void shares() {
            for (int household = 0; household < ledger.setup(4); household++) {
                say("share", ledger.setShare(household, 50));
            }
        }

        void future() {
            for (int member = 0; member < ledger.setup(3) && ledger.setup(1) > 0; member++) {
                say("points", ledger.purchase(member, 0, 54321));
            }
            tell("refund", l -> l.refund(l.purchaseCount() - 1));
            tell("refund", l -> l.refund(l.purchaseCount() - 9));
            for (int days : new int[] {1, 2, 3, 400}) {
                tell("\nadvance", l -> l.advance(days));
                for (int member = 0; member < ledger.setup(3); member++) {
                    say("qualifying", ledger.qualifying(member));
                    say("tier", ledger.tier(member));
                    say("below", ledger.belowSince(member));
                    say("debt", ledger.debt(member));
                }
                log(5);
            }
        }
    }
}
