import java.util.function.Supplier;

/** Counts and prints the answers that are not the ones that are due. */
final class Checks {
    private int done = 0;
    private int wrong = 0;

    /** A call on a ledger. */
    interface Call {
        int on(PointsLedger ledger);
    }

    void equal(String what, long got, long want) {
        done++;
        if (got != want) {
            wrong++;
            System.out.println(what + " answered " + got + ", due is " + want);
        }
    }

    void same(String what, String got, String want) {
        done++;
        if (!got.equals(want)) {
            wrong++;
            System.out.println(what + ":\n  " + got + "\ndue is\n  " + want);
        }
    }

    /** The call throws an exception of exactly this class, and changes nothing by it. */
    void refused(String what, Class<?> due, Supplier<PointsLedger> start, Call call) {
        for (Picture view : Picture.values()) {
            PointsLedger ledger = start.get();
            thrown(what, due, ledger, call);
            same(what + " changes nothing: " + view, view.of(ledger), view.of(start.get()));
        }
    }

    /** The call throws an exception of exactly this class. */
    void thrown(String what, Class<?> due, PointsLedger ledger, Call call) {
        same(what + " throws", outcome(ledger, call), due.getName());
    }

    /** The cohorts of an account as pairs of points and days. */
    void account(String what, PointsLedger l, int member, int... due) {
        equal(what + ": cohorts of " + member, l.cohortCount(member), due.length / 2);
        for (int i = 0; i < Math.min(l.cohortCount(member), due.length / 2); i++) {
            equal(what + ": points of cohort " + i, l.cohort(member, i, 0), due[2 * i]);
            equal(what + ": day of cohort " + i, l.cohort(member, i, 1), due[2 * i + 1]);
        }
    }

    /** The cohorts of a pool as triples of points, days and contributors. */
    void pool(String what, PointsLedger l, int household, int... due) {
        equal(what + ": cohorts in pool " + household, l.poolCohortCount(household), due.length / 3);
        for (int i = 0; i < Math.min(l.poolCohortCount(household), due.length / 3); i++) {
            for (int part = 0; part <= 2; part++) {
                equal(what + ": part " + part + " of pool cohort " + i,
                        l.poolCohort(household, i, part), due[3 * i + part]);
            }
        }
    }

    /** An entry of the log. */
    void logged(String what, PointsLedger l, int index, int kind, int day, int subject, int number) {
        int[] due = {kind, day, subject, number};
        for (int part = 0; part < due.length; part++) {
            equal(what + ": log " + index + " part " + part, l.log(index, part), due[part]);
        }
    }

    static String outcome(PointsLedger ledger, Call call) {
        try {
            return Integer.toString(call.on(ledger));
        } catch (RuntimeException e) {
            return e.getClass().getName();
        }
    }

    /** A ledger that was set up by this text. */
    static PointsLedger loaded(String text) {
        PointsLedger ledger = typed(text);
        ledger.load();
        return ledger;
    }

    /** A new ledger with this text in its input buffer. */
    static PointsLedger typed(String text) {
        PointsLedger ledger = new PointsLedger();
        type(ledger, text);
        return ledger;
    }

    /** Appends the text, twenty bytes a call. */
    static void type(PointsLedger ledger, String text) {
        for (int at = 0; at < text.length(); at += 20) {
            ledger.append(word(text, at), word(text, at + 4), word(text, at + 8),
                    word(text, at + 12), word(text, at + 16));
        }
    }

    private static int word(String text, int at) {
        int word = 0;
        for (int i = at; i < at + 4; i++) {
            word = word << 8 | (i < text.length() ? text.charAt(i) & 255 : 0);
        }
        return word;
    }

    void finish(String name) {
        System.out.println(name + ": " + done + " checks, " + wrong + " wrong");
        if (wrong != 0) {
            System.exit(1);
        }
    }
}
