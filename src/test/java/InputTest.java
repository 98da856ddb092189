import java.util.NoSuchElementException;

/** Promises 1 to 6: a new object and its input. */
public final class InputTest {
    private static final Checks CHECKS = new Checks();
    private static final String SIX_HUNDRED = "member ann" + " ".repeat(590);

    public static void main(String[] args) {
        promise1NewObject();
        promise2Append();
        promise2AppendLimit();
        promise3Truncate();
        promise4Statements();
        promise4Names();
        promise4Numbers();
        promise4Counts();
        promise5Load();
        promise5LoadForgets();
        promise6Find();
        CHECKS.finish("InputTest");
    }

    private static void promise1NewObject() {
        PointsLedger ledger = new PointsLedger();
        int[] setup = {1, 0, 0, 0, 0, 365, 365, 0};
        for (int what = 0; what < setup.length; what++) {
            CHECKS.equal("new: setup " + what, ledger.setup(what), setup[what]);
        }
        for (int what = 0; what <= 6; what++) {
            CHECKS.equal("new: total " + what, ledger.total(what), 0);
        }
        CHECKS.equal("new: threshold", ledger.threshold(0), 0);
        CHECKS.equal("new: today", ledger.today(), 0);
        CHECKS.equal("new: purchases", ledger.purchaseCount(), 0);
        CHECKS.equal("new: log", ledger.logSize(), 0);
        CHECKS.equal("new: undo", ledger.undoCount(), 0);
        CHECKS.equal("new: length", ledger.append(0, 0, 0, 0, 0), 0);
        CHECKS.equal("the constant", PointsLedger.NONE, -1);
        CHECKS.refused("new: restore", IllegalStateException.class, PointsLedger::new,
                PointsLedger::restore);
        CHECKS.equal("new: days pass", ledger.advance(400), 0);
        CHECKS.equal("new: days have passed", ledger.today(), 400);
    }

    private static void promise2Append() {
        PointsLedger ledger = Checks.loaded("member abcd;member pqrst");
        CHECKS.equal("four bytes", ledger.append(0x61626364, 0, 0, 0, 0), 4);
        CHECKS.equal("the most significant first", ledger.find(), 0);
        ledger.truncate(0);
        CHECKS.equal("zeros are skipped", ledger.append(0x00700000, 0x71, 0x72000073, 0, 0x7400), 5);
        CHECKS.equal("in all parameters, in their order", ledger.find(), 1);
        CHECKS.equal("bytes above 127", ledger.append(-1, -1, -1, -1, 0x80000000), 22);
        CHECKS.equal("zeros alone", ledger.append(0, 0, 0, 0, 0), 22);
    }

    private static void promise2AppendLimit() {
        PointsLedger ledger = Checks.typed(SIX_HUNDRED.substring(0, 580));
        CHECKS.equal("600 bytes", ledger.append(0x20202020, 0x20202020, 0x20202020, 0x20202020,
                0x20202020), 600);
        CHECKS.equal("no byte more", ledger.append(0, 0, 0, 0, 0), 600);
        CHECKS.refused("byte 601", IllegalStateException.class,
                () -> Checks.typed(SIX_HUNDRED), l -> l.append(0, 0, 0, 0, 1));
        CHECKS.refused("byte 601 behind ten that fit", IllegalStateException.class,
                () -> Checks.typed(SIX_HUNDRED.substring(0, 590)),
                l -> l.append(0x3b3b3b3b, 0x3b3b3b3b, 0x3b3b0000, 0, 0x3b));
        String almost = SIX_HUNDRED.substring(0, 598);
        CHECKS.refused("byte 601 in a", IllegalStateException.class,
                () -> Checks.typed(almost), l -> l.append(0x202020, 0, 0, 0, 0));
        CHECKS.refused("byte 601 in b", IllegalStateException.class,
                () -> Checks.typed(almost), l -> l.append(0, 0x20200020, 0, 0, 0));
        CHECKS.refused("byte 601 in c", IllegalStateException.class,
                () -> Checks.typed(almost), l -> l.append(0, 0, 0x20002020, 0, 0));
        CHECKS.refused("byte 601 in d", IllegalStateException.class,
                () -> Checks.typed(almost), l -> l.append(0, 0, 0, 0x20202000, 0));
        CHECKS.equal("bytes 599 and 600", Checks.typed(almost).append(0, 0x20, 0, 0x20, 0), 600);
        CHECKS.equal("the text of 600 bytes", Checks.typed(SIX_HUNDRED).load(), 1);
    }

    private static void promise3Truncate() {
        PointsLedger ledger = Checks.typed("member ann;member bob");
        CHECKS.equal("all stays", ledger.truncate(21), 21);
        CHECKS.equal("a part", ledger.truncate(10), 10);
        CHECKS.equal("the part is valid", ledger.errorPosition(), -1);
        Checks.type(ledger, "a");
        CHECKS.equal("what follows stands behind", ledger.load(), 1);
        Checks.type(ledger, "anna");
        CHECKS.equal("the name grew", ledger.find(), 0);
        CHECKS.equal("to nothing", ledger.truncate(0), 0);
        CHECKS.equal("nothing is left", ledger.append(0, 0, 0, 0, 0), 0);
        CHECKS.refused("a negative length", IllegalArgumentException.class,
                () -> Checks.typed("ab"), l -> l.truncate(-1));
        CHECKS.refused("a greater length", IllegalArgumentException.class,
                () -> Checks.typed("ab"), l -> l.truncate(3));
        CHECKS.refused("the greatest length", IllegalArgumentException.class,
                PointsLedger::new, l -> l.truncate(Integer.MAX_VALUE));
        CHECKS.refused("the least length", IllegalArgumentException.class,
                PointsLedger::new, l -> l.truncate(Integer.MIN_VALUE));
    }

    private static void position(String text, int due) {
        CHECKS.equal("error position of \"" + text + "\"", Checks.typed(text).errorPosition(), due);
    }

    private static void promise4Statements() {
        position("", 0);
        position("   ", 3);
        position(";", 0);
        position("tier a 0 0;category b 1 2;promo b 3 4 5;member c;house d 6;life 7;window 8;grace 9", -1);
        position("  member  ann  ;  member  bob  ", -1);
        position("member ann;", 11);
        position("member ann; ", 12);
        position("member ann;;member bob", 11);
        position("member", 6);
        position("member  ", 8);
        position("member ann member bob", 11);
        position("member ann bob", 11);
        position("members ann", 0);
        position("ann", 0);
        position("5", 0);
        position("Member ann", 0);
        position("memb er ann", 0);
        position("member\tann", 6);
        position("member \u00e9", 7);
        position("member ann\u0001", 10);
        position("life10", -1);
        position("life10;grace0", -1);
        position("life 10x", 7);
        position("life 10 20", 8);
        position("life -1", 5);
        position("tier a0 0", -1);
        position("tier a 0", 8);
        position("tier a 0 ;", 9);
        position("tier 0 0", 5);
        position("category a 1", 12);
        position("promo", 5);
        position("house h", 7);
        position("house h;", 7);
        position("grace", 5);
        position("grace ;", 6);
    }

    private static void promise4Names() {
        position("member a", -1);
        position("member abcdef", -1);
        position("member abcdefg", 7);
        position("member tier", 7);
        position("member promo", 7);
        position("member member", 7);
        position("member house", 7);
        position("member life", 7);
        position("member window", 7);
        position("member grace", 7);
        position("house category 1", 6);
        position("member lif;member lifes", -1);
        position("member aa;member aq;member ba;member qa;member q;member a", -1);
        position("member zzzzzz;member zzzzz;member zzzzzy;member azzzzz;member zzzzzz", 62);
        position("member ann;member ann", 18);
        position("tier ann 0 0;member ann", 20);
        position("category ann 0 0;house ann 0", 23);
        position("house ann 0;category ann 0 0", 21);
        position("member ann;tier ann 0 0", 16);
        position("member ann1", 10);
        position("member a{", 8);
        position("member `", 7);
        position("promo food 0 0 1", 6);
        position("member food;promo food 0 0 1", 18);
        position("category food 0 0;promo foo 0 0 1", 24);
        position("category food 0 0;promo foodie 0 0 1", 24);
        position("category foodie 0 0;promo foodies 0 0 1", 26);
        position("category food 0 0;promo 1 0 0 1", 24);
        position("category food 0 0;promo food 0 0 1", -1);
        position("promo food 0 0 1;category food 0 0", 6);
    }

    private static void promise4Numbers() {
        position("tier a 1 0", 7);
        position("tier a 0 301", 9);
        position("tier a 0 300;tier b 1 0", -1);
        position("tier a 0 0;tier b 0 0", 18);
        position("tier a 0 0;tier b 5 0;tier c 5 0", 29);
        position("tier a 0 0;tier b 5 0;tier c 6 0", -1);
        position("tier a 0 0;tier b 1000000 0", -1);
        position("tier a 0 0;tier b 1000001 0", 18);
        position("tier a 0 0;tier b 1000000 0;tier c 1000001 0", 35);
        position("tier a 0 0;tier b 1000000 0;tier", 32);
        position("tier a 0 0;tier b 1000000 0;tier c 1000000", 35);
        position("category a 50 100000", -1);
        position("category a 51 0", 11);
        position("category a 0 100001", 13);
        position("category a 0 0;promo a 9999 9999 500", -1);
        position("category a 0 0;promo a 10000 9999 500", 23);
        position("category a 0 0;promo a 5 4 500", 25);
        position("category a 0 0;promo a 5 5 1", -1);
        position("category a 0 0;promo a 5 10000 1", 25);
        position("category a 0 0;promo a 5 5 0", 27);
        position("category a 0 0;promo a 5 5 501", 27);
        position("house a 100", -1);
        position("house a 101", 8);
        position("life 0", 5);
        position("life 1", -1);
        position("life 1000", -1);
        position("life 1001", 5);
        position("window 0", 7);
        position("window 1", -1);
        position("window 1000", -1);
        position("window 1001", 7);
        position("grace 0", -1);
        position("grace 400", -1);
        position("grace 401", 6);
        position("grace 0000007", -1);
        position("grace 00000007", 6);
        position("grace 99999999999999", 6);
        position("grace 4294967296", 6);
    }

    private static void promise4Counts() {
        position("tier a 0 0;tier b 1 0;tier c 2 0;tier d 3 0;tier e 4 0", -1);
        position("tier a 0 0;tier b 1 0;tier c 2 0;tier d 3 0;tier e 4 0;tier f 5 0", 55);
        position(many("category %s 0 0;", 8) + "member z", -1);
        position(many("category %s 0 0;", 8) + "category z 0 0", 120);
        position("category a 0 0;" + many("promo a 0 0 1;", 8) + "member z", -1);
        position("category a 0 0;" + many("promo a 0 0 1;", 8) + "promo a 0 0 1", 127);
        position(many("member %s;", 12) + "grace 0", -1);
        position(many("member %s;", 12) + "member z", 108);
        position(many("house %s 0;", 4) + "grace 0", -1);
        position(many("house %s 0;", 4) + "house z 0", 40);
        position("life 5;life 5", 7);
        position("life 5;window 5;window 5", 16);
        position("grace 5;window 5;grace 5", 17);
    }

    /** So many statements, with the names a, b, .. in them. */
    private static String many(String form, int count) {
        StringBuilder text = new StringBuilder();
        for (int i = 0; i < count; i++) {
            text.append(form.replace("%s", String.valueOf((char) ('a' + i))));
        }
        return text.toString();
    }

    private static void promise5Load() {
        PointsLedger ledger = Checks.typed("tier no 0 10;tier au 30 20;category fo 7 9;"
                + "promo fo 1 2 3;member ann;member bob;house h 4;life 1;window 2;grace 3");
        CHECKS.equal("load", ledger.load(), 2);
        int[] setup = {2, 1, 1, 2, 1, 1, 2, 3};
        for (int what = 0; what < setup.length; what++) {
            CHECKS.equal("loaded: setup " + what, ledger.setup(what), setup[what]);
        }
        CHECKS.equal("loaded: threshold", ledger.threshold(1), 30);
        CHECKS.equal("loaded: rate, cap and bonus", ledger.wouldEarn(0, 0, 10000), 9);
        CHECKS.equal("loaded: rate and bonus", ledger.wouldEarn(1, 0, 100), 7);
        CHECKS.equal("loaded: share", ledger.setShare(0, 0), 4);
        CHECKS.equal("loaded: the buffer is empty", ledger.append(0, 0, 0, 0, 0), 0);
        CHECKS.equal("no members", Checks.typed("life 3").load(), 0);
        CHECKS.equal("twelve members", Checks.typed(many("member %s;", 12) + "grace 0").load(), 12);
        CHECKS.equal("no tier statement", Checks.loaded("category c 50 0;member m")
                .wouldEarn(0, 0, 1000), 500);
        CHECKS.refused("no text", IllegalArgumentException.class, PointsLedger::new,
                PointsLedger::load);
        CHECKS.refused("a text that ends too early", IllegalArgumentException.class,
                () -> Checks.typed("member ann;"), PointsLedger::load);
        CHECKS.refused("a text that is not valid", IllegalArgumentException.class,
                InputTest::busyLedgerWithBrokenText, PointsLedger::load);
    }

    private static PointsLedger busyLedger() {
        PointsLedger ledger = Checks.loaded("tier a 0 10;tier b 30 20;category c 50 0;promo c 0 99 50;"
                + "member ann;member bob;house h 4;life 9;window 2;grace 3");
        ledger.save();
        ledger.join(0, 0);
        ledger.purchase(0, 0, 1000);
        ledger.redeem(0, 10);
        ledger.purchase(1, 0, 500);
        ledger.transfer(1, 0, 20);
        ledger.refund(1);
        ledger.advance(5);
        ledger.setShare(0, 3);
        return ledger;
    }

    private static PointsLedger busyLedgerWithBrokenText() {
        PointsLedger ledger = busyLedger();
        Checks.type(ledger, "tier x 0 0;category y 1 2;member z;life 3;life 3");
        return ledger;
    }

    private static void promise5LoadForgets() {
        String text = "member zoe;category y 1 20;house k 70";
        for (Picture view : Picture.values()) {
            PointsLedger ledger = busyLedger();
            Checks.type(ledger, text);
            CHECKS.equal("load again", ledger.load(), 1);
            CHECKS.same("everything is replaced: " + view, view.of(ledger),
                    view.of(Checks.loaded(text)));
        }
        PointsLedger other = busyLedger();
        Checks.type(other, text);
        other.load();
        CHECKS.equal("bonus and promotion are gone", other.wouldEarn(0, 0, 10000), 20);
        CHECKS.equal("the share too", other.setShare(0, 5), 70);
        CHECKS.equal("nobody lives there", other.join(0, 0), 1);
        other.purchase(0, 0, 200);
        other.refund(0);
        CHECKS.equal("the window is a new one", other.qualifying(0), 0);
    }

    private static void promise6Find() {
        PointsLedger ledger = Checks.loaded("category x 0 0;tier y 0 0;house z 1;"
                + "member ann;member a;member annabe");
        String[] names = {"ann", "a", "annabe"};
        for (int member = 0; member < names.length; member++) {
            ledger.truncate(0);
            Checks.type(ledger, names[member]);
            CHECKS.equal("find " + names[member], ledger.find(), member);
            CHECKS.equal("the buffer is kept", ledger.append(0, 0, 0, 0, 0), names[member].length());
        }
        for (String name : new String[] {"", "an", "anna", "annab", "annabes", "x", "y", "z", " ann",
            "ann ", "ANN", "b", "member ann", "{", "`"}) {
            CHECKS.refused("find \"" + name + "\"", NoSuchElementException.class,
                    () -> withInput(name), PointsLedger::find);
        }
        CHECKS.refused("find in a new ledger", NoSuchElementException.class, PointsLedger::new,
                PointsLedger::find);
    }

    private static PointsLedger withInput(String name) {
        PointsLedger ledger = Checks.loaded("category x 0 0;tier y 0 0;house z 1;"
                + "member ann;member a;member annabe");
        Checks.type(ledger, name);
        return ledger;
    }
}
