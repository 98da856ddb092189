/** All that a small ledger tells of itself, then what undoing its changes shows. */
final class Picture {
    private final PointsLedger ledger;
    private final StringBuilder text = new StringBuilder();

    private Picture(PointsLedger ledger) {
        this.ledger = ledger;
    }

    /** The ledger is used up by this: its changes are undone, its copy is restored. */
    static String of(PointsLedger ledger) {
        Picture picture = new Picture(ledger);
        picture.now();
        picture.past();
        return picture.text.toString();
    }

    /** The present state alone; the ledger stays as it is. */
    static String ofPresent(PointsLedger ledger) {
        Picture picture = new Picture(ledger);
        picture.books();
        return picture.text.toString();
    }

    private void now() {
        say("length", ledger.append(0, 0, 0, 0, 0));
        say("error", ledger.errorPosition());
        text.append("find ").append(Checks.outcome(ledger, PointsLedger::find)).append(' ');
        say("undo", ledger.undoCount());
        books();
    }

    private void books() {
        say("day", ledger.today());
        for (int what = 0; what <= 7; what++) {
            say("setup", ledger.setup(what));
        }
        for (int what = 0; what <= 6; what++) {
            say("total", ledger.total(what));
        }
        for (int part = 0; part <= 9; part++) {
            say("part", ledger.redeemedWith(part));
        }
        for (int member = 0; member < ledger.setup(3); member++) {
            member(member);
        }
        for (int household = 0; household < ledger.setup(4); household++) {
            household(household);
        }
        purchases();
        log();
    }

    private void member(int member) {
        say("\nmember", member);
        say("tier", ledger.tier(member));
        say("below", ledger.belowSince(member));
        say("qualifying", ledger.qualifying(member));
        say("debt", ledger.debt(member));
        say("home", ledger.household(member));
        for (int i = 0; i < ledger.cohortCount(member); i++) {
            say("points", ledger.cohort(member, i, 0));
            say("until", ledger.cohort(member, i, 1));
        }
    }

    private void household(int household) {
        say("\nhousehold", household);
        say("members", ledger.members(household));
        for (int i = 0; i < ledger.poolCohortCount(household); i++) {
            say("points", ledger.poolCohort(household, i, 0));
            say("until", ledger.poolCohort(household, i, 1));
            say("by", ledger.poolCohort(household, i, 2));
        }
    }

    private void purchases() {
        int count = ledger.purchaseCount();
        say("\npurchases", count);
        for (int purchase = Math.max(0, count - 5); purchase < count; purchase++) {
            for (int what = 0; what <= 6; what++) {
                say("", ledger.purchasePart(purchase, what));
            }
        }
    }

    private void log() {
        say("\nlog", ledger.logSize());
        for (int index = 0; index < Math.min(ledger.logSize(), 5); index++) {
            for (int what = 0; what <= 3; what++) {
                say("", ledger.log(index, what));
            }
        }
    }

    private void past() {
        for (int undone = 0; undone < 8 && ledger.undoCount() > 0; undone++) {
            say("\nundone", ledger.undo());
            say("day", ledger.today());
            for (int what = 0; what <= 6; what++) {
                say("total", ledger.total(what));
            }
            say("log", ledger.logSize());
        }
        text.append("\nrestored ").append(Checks.outcome(ledger, PointsLedger::restore));
        text.append(" log ").append(ledger.logSize());
    }

    private void say(String name, int value) {
        text.append(name).append(' ').append(value).append(' ');
    }
}
