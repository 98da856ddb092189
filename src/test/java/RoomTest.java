import com.sun.management.ThreadMXBean;
import java.lang.management.ManagementFactory;
import java.util.NoSuchElementException;
import java.util.Random;

/** The rows are long enough for 512 calls, calls make no objects, and no call ever breaks. */
public final class RoomTest {
    private static final Checks CHECKS = new Checks();
    private static final String TOWN = "category shop 50 0;category fuel 7 0;"
            + "member a;member b;member c;member d;member e;member f;member g;member h;"
            + "member i;member j;member k;member l;house w 50;house x 50;house y 50;life 900";

    public static void main(String[] args) {
        mostCohorts();
        longestList();
        transfersSplitCohorts();
        callsMakeNothing();
        farTooManyCalls();
        CHECKS.finish("RoomTest");
    }

    /** Twelve members in three households make 24 cohorts a day. */
    private static void mostCohorts() {
        PointsLedger l = Checks.loaded(TOWN);
        for (int member = 0; member < 12; member++) {
            l.join(member, member / 4);
        }
        for (int day = 0; day < 36; day++) {
            for (int member = 0; member < 12; member++) {
                l.purchase(member, 0, 100 + 2 * day);
            }
            l.advance(1);
        }
        int bought = 12 * (36 * 50 + 35 * 36 / 2);
        CHECKS.equal("all points are there", l.total(5), bought);
        CHECKS.equal("cohorts in an account", l.cohortCount(11), 36);
        CHECKS.equal("cohorts in a pool", l.poolCohortCount(2), 144);
        CHECKS.equal("the last of them", l.poolCohort(2, 143, 2), 11);
        CHECKS.equal("all qualify", l.qualifying(11), bought / 12);
    }

    private static void longestList() {
        PointsLedger l = Checks.loaded(TOWN);
        for (int day = 0; day < 240; day++) {
            l.purchase(5, 0, 100);
            l.advance(1);
        }
        CHECKS.equal("a cohort a day", l.cohortCount(5), 240);
        CHECKS.equal("their points", l.balance(5), 240 * 50);
        CHECKS.equal("all at once", l.transfer(5, 6, 240 * 50), 0);
        CHECKS.equal("all arrived", l.cohort(6, 239, 1), 239 + 900);
        CHECKS.equal("redeemed at once", l.redeem(6, 240 * 50), 0);
        CHECKS.equal("many purchases", l.purchaseCount(), 240);
    }

    private static void transfersSplitCohorts() {
        PointsLedger l = Checks.loaded(TOWN);
        for (int i = 0; i < 20; i++) {
            l.purchase(0, 0, 100000);
            l.advance(1);
        }
        for (int i = 0; i < 440; i++) {
            l.transfer(5 * i % 12, 5 * (i + 1) % 12, 50007 - i);
        }
        CHECKS.equal("no point is lost", l.total(5), 20 * 50000);
    }

    private static void callsMakeNothing() {
        ThreadMXBean bean = (ThreadMXBean) ManagementFactory.getThreadMXBean();
        work(Checks.loaded(TOWN), new Random(1), 500);
        long start = bean.getCurrentThreadAllocatedBytes();
        PointsLedger l = new PointsLedger();
        long made = bean.getCurrentThreadAllocatedBytes() - start;
        CHECKS.equal("a ledger takes " + made + " bytes", made < 600000 ? 1 : 0, 1);
        Checks.type(l, TOWN);
        l.load();
        Random random = new Random(2);
        start = bean.getCurrentThreadAllocatedBytes();
        int failed = work(l, random, 450);
        long more = bean.getCurrentThreadAllocatedBytes() - start;
        // An exception takes some hundred bytes, and so does its trace.
        CHECKS.equal("calls take " + more + " bytes", more < 20000 + failed * 2000L ? 1 : 0, 1);
    }

    private static void farTooManyCalls() {
        PointsLedger l = Checks.loaded(TOWN);
        for (int member = 0; member < 12; member++) {
            l.join(member, member / 4);
        }
        int failed = work(l, new Random(3), 20000);
        CHECKS.equal("calls that are refused are few", failed < 15000 ? 1 : 0, 1);
        CHECKS.equal("the log stays", l.logSize(), 30);
    }

    /** Makes random calls; returns how many of them threw what the document names. */
    private static int work(PointsLedger l, Random random, int calls) {
        int failed = 0;
        for (int i = 0; i < calls; i++) {
            try {
                one(l, random);
            } catch (ArrayIndexOutOfBoundsException | StringIndexOutOfBoundsException e) {
                CHECKS.equal("an index of the machine", 1, 0);
            } catch (IllegalStateException | IllegalArgumentException | IndexOutOfBoundsException
                    | NoSuchElementException e) {
                failed++;
            }
        }
        return failed;
    }

    private static void one(PointsLedger l, Random random) {
        int member = random.nextInt(12);
        switch (random.nextInt(12)) {
            case 0 -> l.transfer(member, random.nextInt(12), 1 + random.nextInt(200));
            case 1 -> l.redeem(member, 1 + random.nextInt(30));
            case 2 -> l.refund(Math.max(0, l.purchaseCount() - 1 - random.nextInt(30)));
            case 3 -> l.advance(1);
            case 4 -> l.tierAfter(member, 2000);
            case 5 -> l.rankedMember(member);
            case 6 -> l.totalBreakage();
            case 7 -> l.join(member, random.nextInt(3));
            case 8 -> undoOrLeave(l, member, random.nextInt(6));
            default -> l.purchase(member, 0, 1 + random.nextInt(100000));
        }
    }

    private static void undoOrLeave(PointsLedger l, int member, int which) {
        if (which == 0) {
            l.undo();
        } else {
            l.leave(member);
        }
    }
}
