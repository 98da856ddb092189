import java.util.NoSuchElementException;

/**
 * Each sentence of part 8 of "Terms" (the setup text), and of the promises 1 to 6, that names
 * a boundary case. In a text that is not valid, ^ stands where the error position is due.
 */
public final class TextBoundsTest {
    private static final Checks CHECKS = new Checks();
    private static final Class<?> ARGUMENT = IllegalArgumentException.class;
    private static final Class<?> STATE = IllegalStateException.class;
    private static final Class<?> ELEMENT = NoSuchElementException.class;

    private static final String[] KEYWORDS = {"tier", "category", "promo", "member", "house",
        "life", "window", "grace"};

    /** The statements by which a name is defined, with N for it. */
    private static final String[] NAMING = {"tier N 0 0", "category N 0 0", "member N", "house N 0"};

    /** Each statement once, token by token; the category of the promotion comes before it. */
    private static final String[][] STATEMENTS = {{"tier", "t", "0", "300"},
        {"category", "c", "50", "100000"}, {"promo", "food", "0", "9999", "500"}, {"member", "m"},
        {"house", "h", "100"}, {"life", "1000"}, {"window", "1000"}, {"grace", "400"}};

    public static void main(String[] args) {
        oneOrMoreStatements();
        separatedBySemicolons();
        words();
        wordsAreMaximal();
        numbers();
        numbersHaveSevenDigitsAtMost();
        singleOtherBytes();
        spacesMayStand();
        onlyByte32IsASpace();
        tiersAtMostFive();
        firstThreshold();
        laterThresholds();
        greatestThreshold();
        bonus();
        withoutTier();
        categoriesAtMostEight();
        rate();
        cap();
        promosAtMostEight();
        from();
        to();
        extra();
        membersAtMostTwelve();
        housesAtMostFour();
        share();
        life();
        window();
        grace();
        missingPeriods();
        periodsAtMostOnce();
        nameHasOneToSixLetters();
        nameIsNoKeyword();
        keywordsAreExact();
        nameIsNew();
        namesThatAreAlike();
        categoryWasDefinedBefore();
        firstTokenThatCannotBeAccepted();
        textEndsTooEarly();
        wrongTokenAtEachPlace();
        tokenTooMany();
        tooManyStatementsBeforeTheirErrors();
        promoWithoutCategories();
        tierBehindTheGreatestThreshold();
        newObject();
        appendOrder();
        appendSkipsZeros();
        appendUpTo600();
        appendCountsEachByte();
        lastByteOfTheBuffer();
        appendRefused();
        truncate();
        truncateRefused();
        errorPositionChangesNothing();
        loadReplacesEverything();
        loadForgets();
        loadRefused();
        findExactly();
        findRefused();
        CHECKS.finish("TextBoundsTest");
    }

    private static void at(String marked) {
        String text = marked.replace("^", "");
        PointsLedger l = Checks.typed(text);
        CHECKS.equal("\"" + text + "\": error position", l.errorPosition(), marked.indexOf('^'));
        CHECKS.thrown("\"" + text + "\": load", ARGUMENT, l, PointsLedger::load);
        CHECKS.equal("\"" + text + "\": the buffer is kept", l.append(0, 0, 0, 0, 0), text.length());
        CHECKS.equal("\"" + text + "\": nothing is loaded", l.setup(3), 0);
    }

    private static void valid(String text) {
        PointsLedger l = Checks.typed(text);
        CHECKS.equal("\"" + text + "\" is valid", l.errorPosition(), PointsLedger.NONE);
        CHECKS.same("\"" + text + "\" is loaded", Checks.outcome(l, PointsLedger::load),
                Integer.toString(text.split("member ", -1).length - 1));
    }

    /** So many statements, with the names a, b, .. for N and their numbers for #. */
    private static String many(String form, int count) {
        StringBuilder text = new StringBuilder();
        for (int i = 0; i < count; i++) {
            text.append(i == 0 ? "" : ";");
            text.append(form.replace("N", String.valueOf((char) ('a' + i))).replace("#", "" + i));
        }
        return text.toString();
    }

    /** "A setup text is a list of one or more statements" */
    private static void oneOrMoreStatements() {
        at("^");
        at("   ^");
        valid("grace 0");
        valid("grace 0;life 1");
        valid("tier t 0 0;category c 0 0;promo c 0 0 1;member m;house h 0;life 1;window 1;grace 0");
    }

    /** ".. separated by semicolons." */
    private static void separatedBySemicolons() {
        at("^;");
        at("^;grace 0");
        at("grace 0;^");
        at("grace 0;^;life 1");
        at("grace 0;life 1;^");
        at("grace 0 ^life 1");
        at("grace 0^,life 1");
        at("grace 0^:life 1");
        at("grace 0^<life 1");
        at("grace 0 ^0");
    }

    /** "Tokens are words (maximal runs of the letters a to z)": a and z, and what is beside them. */
    private static void words() {
        valid("member a");
        valid("member z");
        valid("member az");
        at("member ^`");
        at("member ^{");
        at("member a^`");
        at("member z^{");
        at("member ^A");
        at("member ^Z");
        at("member a^Z");
        at("^Member a");
        at("member ^\u00e1");
        at("member ^\u00fa");
    }

    /** ".. maximal runs ..": a word ends only before what is no letter. */
    private static void wordsAreMaximal() {
        at("^membera");
        at("^lifea 1");
        at("^membe");
        at("^membe r a");
        at("member ab ^c");
        valid("life1");
        valid("tier a0 0");
        valid("category a1 2");
    }

    /** "numbers (maximal runs of digits ..": 0 and 9, and what is beside them. */
    private static void numbers() {
        valid("life 9");
        valid("grace 0");
        valid("life 190");
        at("life ^/");
        at("life ^:");
        at("life 1^/");
        at("life 1^:");
        at("life 1 ^0");
        at("life ^-1");
        at("life ^+1");
        at("life 1^.5");
        valid("grace0;life1");
        at("life 5^member m");
        at("member m^5");
    }

    /** ".. at most seven)", "A number .. of more than seven digits": the whole run is one token. */
    private static void numbersHaveSevenDigitsAtMost() {
        valid("tier a 0 0;tier b 1000000 0");
        valid("life 0000001");
        valid("life 0001000");
        valid("grace 0000000");
        at("life ^00000001");
        at("grace ^00000000");
        at("grace ^00000000;life 1");
        at("life ^9999999");
        at("life ^10000000");
        at("life ^4294967297");
        at("life ^18446744073709551617");
        at("grace ^" + "0".repeat(594));
        PointsLedger l = Checks.loaded("life 0000012;grace 0000000");
        CHECKS.equal("noughts in front", l.setup(5), 12);
        CHECKS.equal("noughts alone", l.setup(7), 0);
    }

    /** "and single other bytes" */
    private static void singleOtherBytes() {
        at("member^\u0001a");
        at("member a^\u007f");
        at("member ^\u0080");
        at("member a^\u00ff");
        at("^\u00ff");
        at("member ^-a");
        at("member a^-b");
        at("member a;^!");
    }

    /** "Spaces (byte 32) may stand before and after every token." */
    private static void spacesMayStand() {
        String text = "category c 1 2;promo c 3 4 5;tier t 0 6;member m;house h 7;life 8;window 9;grace 1";
        valid(text);
        valid(" " + text);
        valid("   " + text);
        valid(text + " ");
        valid(text + "   ");
        valid(text.replace(";", " ;"));
        valid(text.replace(";", "; "));
        valid(text.replace(";", "  ;  "));
        valid(text.replace("member ", "member   ").replace("life ", "life    "));
        valid("tier  t  0  6");
        valid("category  c  1  2;promo  c  3  4  5");
        valid("house  h  7");
        PointsLedger l = Checks.loaded("  tier  t  0  6  ;  category  c  1  0  ;  member  m  ;  life  8  ");
        CHECKS.equal("the bonus among spaces", l.wouldEarn(0, 0, 10000), 106);
        CHECKS.equal("the life among spaces", l.setup(5), 8);
    }

    private static void onlyByte32IsASpace() {
        at("member^\u001fa");
        at("member^!a");
        at("member^\ta");
        at("member a^\n");
        at("member a^\r;life 1");
        at("member^\u00a0a");
        at("^\u001f");
    }

    /** "tier NAME THRESHOLD BONUS (at most 5 ..": numbered from 0. */
    private static void tiersAtMostFive() {
        valid(many("tier N # 0", 4));
        valid(many("tier N # 0", 5));
        at(many("tier N # 0", 5) + ";^tier f 5 0");
        at(many("tier N # 0", 5) + ";life 1;^tier f 5 0");
        PointsLedger l = Checks.loaded(many("tier N # 0", 5));
        CHECKS.equal("five tiers", l.setup(0), 5);
        CHECKS.equal("the fifth tier", l.threshold(4), 4);
        CHECKS.equal("one tier", Checks.loaded("tier a 0 0").setup(0), 1);
    }

    /** ".. the threshold of the first one is 0 .." */
    private static void firstThreshold() {
        valid("tier a 0 0");
        at("tier a ^1 0");
        at("tier a ^1000000 0");
        valid("life 1;tier a 0 0");
        at("life 1;tier a ^1 0");
    }

    /** ".. the others are greater than the one before .." */
    private static void laterThresholds() {
        at("tier a 0 0;tier b ^0 0");
        valid("tier a 0 0;tier b 1 0");
        at("tier a 0 0;tier b 7 0;tier c ^6 0");
        at("tier a 0 0;tier b 7 0;tier c ^7 0");
        valid("tier a 0 0;tier b 7 0;tier c 8 0");
        at("tier a 0 0;tier b 7 0;tier c 9 0;tier d ^9 0");
        at("tier a 0 0;tier b 7 0;tier c 9 0;tier d ^8 0");
        valid("tier a 0 0;tier b 7 0;member m;tier c 9 0");
        at("tier a 0 0;tier b 7 0;member m;tier c ^7 0");
    }

    /** ".. at most 1000000" */
    private static void greatestThreshold() {
        valid("tier a 0 0;tier b 999999 0;tier c 1000000 0");
        valid("tier a 0 0;tier b 1000000 0");
        at("tier a 0 0;tier b ^1000001 0");
        at("tier a 0 0;tier b 999999 0;tier c ^1000001 0");
        PointsLedger l = Checks.loaded("tier a 0 0;tier b 1000000 0");
        CHECKS.equal("the greatest threshold", l.threshold(1), 1000000);
    }

    /** "a bonus (0 to 300 percent)" */
    private static void bonus() {
        valid("tier a 0 0");
        valid("tier a 0 300");
        at("tier a 0 ^301");
        at("tier a 0 ^-1");
        valid("tier a 0 0;tier b 1 300");
        at("tier a 0 0;tier b 1 ^301");
        PointsLedger l = Checks.loaded("tier a 0 300;category c 1 0;member m");
        CHECKS.equal("the greatest bonus", l.wouldEarn(0, 0, 100), 4);
        l = Checks.loaded("tier a 0 0;category c 1 0;member m");
        CHECKS.equal("the least bonus", l.wouldEarn(0, 0, 100), 1);
    }

    /** "without this statement there is one tier with the bonus 0" */
    private static void withoutTier() {
        PointsLedger l = Checks.loaded("tier a 0 200;tier b 5 300");
        Checks.type(l, "category c 50 0;member m");
        l.load();
        CHECKS.equal("without tier: tiers", l.setup(0), 1);
        CHECKS.equal("without tier: threshold", l.threshold(0), 0);
        CHECKS.equal("without tier: bonus", l.wouldEarn(0, 0, 100000), 50000);
        l.purchase(0, 0, 100000);
        CHECKS.equal("without tier: the tier of a member", l.tier(0), 0);
        CHECKS.thrown("without tier: no second", IndexOutOfBoundsException.class, l, x -> x.threshold(1));
    }

    /** "There are at most 8 categories, numbered from 0." */
    private static void categoriesAtMostEight() {
        valid(many("category N # 0", 7));
        valid(many("category N # 0", 8));
        at(many("category N # 0", 8) + ";^category i 0 0");
        at(many("category N # 0", 8) + ";member m;^category i 0 0");
        PointsLedger l = Checks.loaded(many("category N # 0", 8) + ";member m");
        CHECKS.equal("eight categories", l.setup(1), 8);
        CHECKS.equal("the first category", l.wouldEarn(0, 0, 100), 0);
        CHECKS.equal("the eighth category", l.wouldEarn(0, 7, 100), 7);
        CHECKS.equal("no category", Checks.loaded("member m").setup(1), 0);
    }

    /** "A category has a rate (0 to 50)" */
    private static void rate() {
        valid("category c 0 0");
        valid("category c 50 0");
        at("category c ^51 0");
        at("category c ^-1 0");
        CHECKS.equal("rate 0", earns("category c 0 0", 100000), 0);
        CHECKS.equal("rate 1", earns("category c 1 0", 100000), 1000);
        CHECKS.equal("rate 50", earns("category c 50 0", 100000), 50000);
    }

    /** "and a cap (0 to 100000; 0 means no cap)" */
    private static void cap() {
        valid("category c 0 0");
        valid("category c 0 100000");
        at("category c 0 ^100001");
        at("category c 0 ^-1");
        CHECKS.equal("cap 0", earns("category c 50 0", 100000), 50000);
        CHECKS.equal("cap 1", earns("category c 50 1", 100000), 1);
        CHECKS.equal("a cap by one less", earns("category c 50 49999", 100000), 49999);
        CHECKS.equal("a cap that just fits", earns("category c 50 50000", 100000), 50000);
        CHECKS.equal("the greatest cap", earns("category c 50 100000", 100000), 50000);
    }

    private static int earns(String category, int cents) {
        return Checks.loaded(category + ";member m").wouldEarn(0, 0, cents);
    }

    /** "There are at most 8 promotions." */
    private static void promosAtMostEight() {
        String promos = "category c 0 0;" + many("promo c 0 0 1", 7);
        valid(promos);
        valid(promos + ";promo c 0 0 1");
        at(promos + ";promo c 0 0 1;^promo c 0 0 1");
        at(promos + ";promo c 0 0 1;life 1;^promo c 0 0 1");
        PointsLedger l = Checks.loaded(promos + ";promo c 0 0 500");
        CHECKS.equal("eight promotions", l.setup(2), 8);
        CHECKS.equal("the eighth promotion", l.extras(0, 0), 507);
        CHECKS.equal("no promotion", Checks.loaded("category c 0 0").setup(2), 0);
    }

    /** "FROM 0 to 9999" */
    private static void from() {
        valid("category c 0 0;promo c 0 9999 1");
        valid("category c 0 0;promo c 9999 9999 1");
        at("category c 0 0;promo c ^10000 9999 1");
        at("category c 0 0;promo c ^10000 10000 1");
        at("category c 0 0;promo c ^-1 0 1");
    }

    /** "TO FROM to 9999" */
    private static void to() {
        valid("category c 0 0;promo c 7 7 1");
        valid("category c 0 0;promo c 7 8 1");
        at("category c 0 0;promo c 7 ^6 1");
        at("category c 0 0;promo c 1 ^0 1");
        valid("category c 0 0;promo c 0 0 1");
        valid("category c 0 0;promo c 0 9999 1");
        at("category c 0 0;promo c 0 ^10000 1");
        at("category c 0 0;promo c 9999 ^9998 1");
        at("category c 0 0;promo c 9999 ^10000 1");
    }

    /** "has an extra (1 to 500 percent)" */
    private static void extra() {
        at("category c 0 0;promo c 0 0 ^0");
        valid("category c 0 0;promo c 0 0 1");
        valid("category c 0 0;promo c 0 0 500");
        at("category c 0 0;promo c 0 0 ^501");
        CHECKS.equal("extra 1", earns("category c 1 0;promo c 0 0 1", 10000), 101);
        CHECKS.equal("extra 500", earns("category c 1 0;promo c 0 0 500", 10000), 600);
    }

    /** "There are at most 12 members" */
    private static void membersAtMostTwelve() {
        valid(many("member N", 11));
        valid(many("member N", 12));
        at(many("member N", 12) + ";^member m");
        at(many("member N", 12) + ";grace 0;^member m");
        PointsLedger l = Checks.loaded(many("member N", 12));
        CHECKS.equal("twelve members", l.setup(3), 12);
        Checks.type(l, "l");
        CHECKS.equal("the twelfth member", l.find(), 11);
    }

    /** "and at most 4 households" */
    private static void housesAtMostFour() {
        valid(many("house N 0", 3));
        valid(many("house N 0", 4));
        at(many("house N 0", 4) + ";^house e 0");
        at(many("house N 0", 4) + ";grace 0;^house e 0");
        PointsLedger l = Checks.loaded(many("house N 1#", 4));
        CHECKS.equal("four households", l.setup(4), 4);
        CHECKS.equal("the first household", l.setShare(0, 0), 10);
        CHECKS.equal("the fourth household", l.setShare(3, 0), 13);
    }

    /** "A household has a share (0 to 100 percent)" */
    private static void share() {
        valid("house h 0");
        valid("house h 100");
        at("house h ^101");
        at("house h ^-1");
        CHECKS.equal("share 0", Checks.loaded("house h 0").setShare(0, 5), 0);
        CHECKS.equal("share 100", Checks.loaded("house h 100").setShare(0, 5), 100);
    }

    /** "The life (1 to 1000 days)" */
    private static void life() {
        at("life ^0");
        valid("life 1");
        valid("life 1000");
        at("life ^1001");
        CHECKS.equal("life 1", Checks.loaded("life 1").setup(5), 1);
        CHECKS.equal("life 1000", Checks.loaded("life 1000").setup(5), 1000);
    }

    /** "the window (1 to 1000 days)" */
    private static void window() {
        at("window ^0");
        valid("window 1");
        valid("window 1000");
        at("window ^1001");
        CHECKS.equal("window 1", Checks.loaded("window 1").setup(6), 1);
        CHECKS.equal("window 1000", Checks.loaded("window 1000").setup(6), 1000);
    }

    /** "and the grace (0 to 400 days)" */
    private static void grace() {
        valid("grace 0");
        valid("grace 1");
        valid("grace 400");
        at("grace ^401");
        CHECKS.equal("grace 0", Checks.loaded("grace 0").setup(7), 0);
        CHECKS.equal("grace 400", Checks.loaded("grace 400").setup(7), 400);
    }

    /** "life N (365 if missing), window N (365 if missing), grace N (0 if missing)" */
    private static void missingPeriods() {
        PointsLedger l = Checks.loaded("life 11;window 12;grace 13");
        Checks.type(l, "member m");
        l.load();
        CHECKS.equal("missing life", l.setup(5), 365);
        CHECKS.equal("missing window", l.setup(6), 365);
        CHECKS.equal("missing grace", l.setup(7), 0);
    }

    /** "each at most once" */
    private static void periodsAtMostOnce() {
        for (String period : new String[] {"life", "window", "grace"}) {
            valid(period + " 3");
            at(period + " 3;^" + period + " 3");
            at(period + " 3;^" + period + " 4");
            at(period + " 3;member m;^" + period + " 3");
        }
        valid("life 3;window 3;grace 3");
        valid("grace 3;window 3;life 3");
        at("grace 0;^grace 0");
    }

    /** "A name has 1 to 6 letters" */
    private static void nameHasOneToSixLetters() {
        for (String naming : NAMING) {
            valid(naming.replace("N", "q"));
            valid(naming.replace("N", "qwerty"));
            at(naming.replace("N", "^qwertyu"));
            at(naming.replace("N", "^" + "q".repeat(60)));
        }
    }

    /** "is none of the words tier, category, promo, member, house, life, window, grace" */
    private static void nameIsNoKeyword() {
        for (String keyword : KEYWORDS) {
            for (String naming : NAMING) {
                at(naming.replace("N", "^" + keyword));
            }
            valid("house " + keyword.substring(0, 3) + " 0");
            valid("house " + keyword.substring(1, Math.min(7, keyword.length())) + " 0");
        }
        valid("member tiers");
        valid("member promos");
        valid("member houses");
        valid("member lifes");
        valid("member graces");
        at("category c 0 0;promo ^category 0 0 1");
    }

    /** A word that has another letter somewhere, one letter less or one more, is no keyword. */
    private static void keywordsAreExact() {
        for (String[] statement : STATEMENTS) {
            String keyword = statement[0];
            String rest = beginning(statement, statement.length)
                    .substring("category food 0 0;".length() + keyword.length());
            for (int i = 0; i < keyword.length(); i++) {
                String other = keyword.substring(0, i) + "x" + keyword.substring(i + 1);
                at("category food 0 0;^" + other + rest);
            }
            at("category food 0 0;^" + keyword.substring(1) + rest);
            at("category food 0 0;^" + keyword.substring(0, keyword.length() - 1) + rest);
            at("category food 0 0;^" + keyword + "s" + rest);
            valid("category food 0 0;" + keyword + rest);
        }
    }

    /** "and is not the name of something that was defined before" */
    private static void nameIsNew() {
        for (String first : NAMING) {
            for (String second : NAMING) {
                String one = first.replace("N", "ann");
                String other = second.replace("tier N 0", "tier N " + (first == second ? 1 : 0));
                at(one + ";" + other.replace("N", "^ann"));
                at(one + ";life 1;" + other.replace("N", "^ann"));
                valid(one + ";" + other.replace("N", "anna"));
                valid(one + ";" + other.replace("N", "an"));
            }
        }
        valid("category ann 0 0;promo ann 0 0 1");
        at(many("member N", 12) + ";house ^a 0");
        at(many("member N", 12) + ";house ^l 0");
        PointsLedger l = Checks.loaded("member ann");
        Checks.type(l, "house ann 0");
        CHECKS.equal("a name of an earlier setup", l.errorPosition(), PointsLedger.NONE);
        CHECKS.equal("the same text once more", l.errorPosition(), PointsLedger.NONE);
    }

    /** Names that differ in one letter, or in their length, are different names. */
    private static void namesThatAreAlike() {
        valid("member aa;member aq;member ba;member qa;member a;member q;member aaa;member qaa");
        valid("member zzzzzz;member zzzzzy;member yzzzzz;member zzzzz;member zzyzzz");
        valid("member b;member ba;member baa;member baaa;member baaaa;member baaaaa;member ab");
        String names = "abcdefghijklmnopqrstuvwxyz";
        for (int i = 0; i < 26; i++) {
            for (int j = 0; j < 26; j++) {
                String text = "member m" + names.charAt(i) + ";member m" + names.charAt(j);
                if (i == j) {
                    at("member m" + names.charAt(i) + ";member ^m" + names.charAt(j));
                } else {
                    valid(text);
                }
            }
        }
    }

    /** "CATEGORY is the name of a category that was defined before." */
    private static void categoryWasDefinedBefore() {
        valid("category food 0 0;promo food 0 0 1");
        valid("category a 0 0;category b 0 0;promo a 0 0 1;promo b 0 0 1");
        at("promo ^food 0 0 1;category food 0 0");
        at("category food 0 0;promo ^foo 0 0 1");
        at("category food 0 0;promo ^foods 0 0 1");
        at("category foodie 0 0;promo ^foodies 0 0 1");
        at("category food 0 0;member ann;promo ^ann 0 0 1");
        at("category food 0 0;house ann 0;promo ^ann 0 0 1");
        at("category food 0 0;tier ann 0 0;promo ^ann 0 0 1");
        at("category food 0 0;promo ^0 0 0 1");
        PointsLedger l = Checks.loaded("category food 0 0");
        Checks.type(l, "promo food 0 0 1");
        CHECKS.equal("a category of an earlier setup", l.errorPosition(), 6);
        PointsLedger last = Checks.loaded(many("category N 0 0", 8) + ";promo h 3 3 9;promo a 3 3 8");
        CHECKS.equal("for the first category", last.extras(0, 3), 8);
        CHECKS.equal("for the last category", last.extras(7, 3), 9);
        CHECKS.equal("for no other category", last.extras(6, 3), 0);
    }

    /** "The error position is the offset of the first token that cannot be accepted" */
    private static void firstTokenThatCannotBeAccepted() {
        at("life ^0;window 0");
        at("life 1;window ^0;grace 401");
        at("tier a ^1 301");
        at("tier ^tier 1 301");
        at("^x tier 1");
        at("life  ^0");
        at("  ^x");
        at("  life  ^0");
        at("category c 0 0;promo ^x 10000 0 0");
        at("category c 0 0;promo c ^10000 0 0");
        at("category c 0 0;promo c 5 ^4 0");
    }

    /** "or the length of the text if the text ends too early": behind each token. */
    private static void textEndsTooEarly() {
        for (String[] statement : STATEMENTS) {
            for (int count = 1; count < statement.length; count++) {
                at(beginning(statement, count) + "^");
                at(beginning(statement, count) + "   ^");
            }
            at(beginning(statement, statement.length) + ";^");
            at(beginning(statement, statement.length) + " ; ^");
            valid(beginning(statement, statement.length));
        }
    }

    /** "and every token that cannot stand at its place by the form of the statements" */
    private static void wrongTokenAtEachPlace() {
        for (String[] statement : STATEMENTS) {
            for (int place = 0; place < statement.length; place++) {
                String before = beginning(statement, place) + (place == 0 ? "" : " ");
                at(before + "^;");
                at(before + "^!");
                at(before + "^\u0001");
                boolean word = Character.isLetter(statement[place].charAt(0));
                at(before + "^" + (word ? "1" : "zz"));
            }
        }
    }

    private static void tokenTooMany() {
        for (String[] statement : STATEMENTS) {
            String whole = beginning(statement, statement.length);
            at(whole + " ^1");
            at(whole + " ^zz");
            at(whole + " ^life 1");
            at(whole + "^!");
            at(whole + " ^\u0001;life 1");
        }
    }

    private static String beginning(String[] statement, int tokens) {
        StringBuilder text = new StringBuilder("category food 0 0;");
        for (int i = 0; i < tokens; i++) {
            text.append(i == 0 ? "" : " ").append(statement[i]);
        }
        return text.toString();
    }

    /** "a statement of which there are too many (the error is at its word)" */
    private static void tooManyStatementsBeforeTheirErrors() {
        at("life 1;^life");
        at("life 1;^life 0");
        at("life 1;  ^life  ;");
        at("window 1;^window x");
        at("grace 1;^grace 401");
        at(many("tier N # 0", 5) + ";^tier");
        at(many("category N 0 0", 8) + ";^category a 51 0");
        at("category c 0 0;" + many("promo c 0 0 1", 8) + ";^promo");
        at(many("member N", 12) + ";^member a");
        at(many("house N 0", 4) + ";^house 1");
    }

    /** "promo is accepted also without categories .. what follows is not" */
    private static void promoWithoutCategories() {
        at("promo^");
        at("promo  ^");
        at("promo ^a 0 0 1");
        at("promo^;");
        at("member m;promo ^m 0 0 1");
    }

    /** "and tier behind the threshold 1000000; what follows is not": no threshold is. */
    private static void tierBehindTheGreatestThreshold() {
        String tiers = "tier a 0 0;tier b 1000000 0;";
        at(tiers + "tier^");
        at(tiers + "tier c^");
        at(tiers + "tier c ^0 0");
        at(tiers + "tier c ^1000000 0");
        at(tiers + "tier c ^1000001 0");
        at(tiers + "tier c ^9999999 0");
        at(tiers + "tier ^1 0");
    }

    /** Promise 1: one tier (threshold 0, bonus 0), nothing else, day 0, 365, 365, 0, no text. */
    private static void newObject() {
        PointsLedger l = new PointsLedger();
        int[] setup = {1, 0, 0, 0, 0, 365, 365, 0};
        for (int what = 0; what < setup.length; what++) {
            CHECKS.equal("a new object: setup " + what, l.setup(what), setup[what]);
        }
        CHECKS.equal("a new object: threshold", l.threshold(0), 0);
        CHECKS.equal("a new object: day", l.today(), 0);
        CHECKS.equal("a new object: length", l.append(0, 0, 0, 0, 0), 0);
        CHECKS.equal("a new object: error position", l.errorPosition(), 0);
        CHECKS.equal("a new object: changes", l.undoCount(), 0);
        CHECKS.equal("a new object: entries", l.logSize(), 0);
        CHECKS.equal("a new object: purchases", l.purchaseCount(), 0);
        CHECKS.equal("a new object: breakage", l.totalBreakage(), 0);
        Class<?> index = IndexOutOfBoundsException.class;
        CHECKS.refused("a new object: tier 1", index, PointsLedger::new, x -> x.threshold(1));
        CHECKS.refused("a new object: category 0", index, PointsLedger::new, x -> x.extras(0, 0));
        CHECKS.refused("a new object: member 0", index, PointsLedger::new, x -> x.balance(0));
        CHECKS.refused("a new object: household 0", index, PointsLedger::new, x -> x.members(0));
        CHECKS.refused("a new object: rank 0", index, PointsLedger::new, x -> x.rankedMember(0));
        CHECKS.refused("a new object: restore", STATE, PointsLedger::new, PointsLedger::restore);
        CHECKS.refused("a new object: undo", STATE, PointsLedger::new, PointsLedger::undo);
    }

    /** Promise 2: "Each parameter holds four bytes, the most significant byte first." */
    private static void appendOrder() {
        PointsLedger l = Checks.loaded("member abcd;member bcda;member aebfcg");
        CHECKS.equal("four bytes", l.append(0x61626364, 0, 0, 0, 0), 4);
        CHECKS.equal("their order", l.find(), 0);
        l.truncate(0);
        CHECKS.equal("a byte a parameter", l.append(0x61, 0x65000000, 0x620000, 0x6600, 0x63), 5);
        CHECKS.equal("one more", l.append(0, 0, 0, 0, 0x67000000), 6);
        CHECKS.equal("the parameters in their order", l.find(), 2);
        PointsLedger twenty = new PointsLedger();
        CHECKS.equal("twenty bytes", twenty.append(0x6d656d62, 0x65722061, 0x3b6c6966, 0x65202031,
                0x3b67725f), 20);
        CHECKS.equal("the last of them", twenty.errorPosition(), 17);
        twenty.truncate(16);
        CHECKS.equal("the others", twenty.load(), 1);
        PointsLedger high = new PointsLedger();
        CHECKS.equal("bytes above 127", high.append(-1, 0x80808080, 0, 0, 0), 8);
        CHECKS.equal("are bytes of a text", high.errorPosition(), 0);
    }

    /** "Bytes with the value 0 are skipped." */
    private static void appendSkipsZeros() {
        PointsLedger l = Checks.loaded("member abcd");
        CHECKS.equal("only zeros", l.append(0, 0, 0, 0, 0), 0);
        CHECKS.equal("zeros between", l.append(0x00610062, 0, 0x63000000, 0, 0x64), 4);
        CHECKS.equal("nothing stands for them", l.find(), 0);
        CHECKS.equal("a byte 1 is not skipped", l.append(1, 0, 0, 0, 0), 5);
        CHECKS.equal("a byte 255 is not skipped", l.append(255, 0, 0, 0, 0), 6);
        CHECKS.equal("a high byte is not skipped", l.append(0x80000000, 0, 0, 0, 0), 7);
    }

    private static PointsLedger withBytes(int count) {
        return Checks.typed("member ann" + " ".repeat(count - 10));
    }

    /** "if the buffer would have more than 600 bytes": 600 are allowed, and zeros don't count. */
    private static void appendUpTo600() {
        int four = 0x20202020;
        CHECKS.equal("580 and 20", withBytes(580).append(four, four, four, four, four), 600);
        CHECKS.equal("599 and 1", withBytes(599).append(0, 0, 0, 0, 0x20), 600);
        CHECKS.equal("599 and 1 among zeros", withBytes(599).append(0x200000, 0, 0, 0, 0), 600);
        CHECKS.equal("600 and zeros", withBytes(600).append(0, 0, 0, 0, 0), 600);
        CHECKS.equal("600 bytes are a text", withBytes(600).errorPosition(), PointsLedger.NONE);
        CHECKS.equal("that can be loaded", withBytes(600).load(), 1);
        PointsLedger l = withBytes(600);
        l.truncate(599);
        CHECKS.equal("room again", l.append(0x20, 0, 0, 0, 0), 600);
        l = withBytes(600);
        l.load();
        CHECKS.equal("room behind a load", l.append(four, four, four, four, four), 20);
        PointsLedger last = Checks.typed("life 1" + " ".repeat(593) + ";");
        CHECKS.equal("byte 600 is read", last.errorPosition(), 600);
        last.truncate(599);
        CHECKS.equal("and gone", last.errorPosition(), PointsLedger.NONE);
        last.append(0x3b, 0, 0, 0, 0);
        CHECKS.equal("and back", last.errorPosition(), 600);
    }

    /** Wherever a byte stands, and whatever it is but 0, it is one byte. */
    private static void appendCountsEachByte() {
        for (int one : new int[] {1, 2, 0x7f, 0x80, 0xff}) {
            for (int place = 0; place < 20; place++) {
                int[] w = new int[5];
                w[place / 4] = one << 24 - place % 4 * 8;
                String what = "byte " + one + " at place " + place;
                CHECKS.equal(what + ": the first", new PointsLedger().append(w[0], w[1], w[2], w[3], w[4]), 1);
                CHECKS.equal(what + ": number 600",
                        withBytes(599).append(w[0], w[1], w[2], w[3], w[4]), 600);
                PointsLedger l = withBytes(600);
                CHECKS.thrown(what + ": number 601", STATE, l, x -> x.append(w[0], w[1], w[2], w[3], w[4]));
                CHECKS.equal(what + ": nothing is appended", l.append(0, 0, 0, 0, 0), 600);
                CHECKS.equal(what + ": the text stays", l.load(), 1);
            }
        }
    }

    /** Tokens that end with byte 600 are read whole. */
    private static void lastByteOfTheBuffer() {
        for (String keyword : KEYWORDS) {
            at(" ".repeat(600 - keyword.length()) + keyword + "^");
            at(" ".repeat(601 - keyword.length()) + "^" + keyword.substring(1));
        }
        valid(" ".repeat(591) + "grace 400");
        at(" ".repeat(591) + "grace ^401");
        valid(" ".repeat(587) + "member qwerty");
        at(" ".repeat(577) + "house m 0;member ^m");
        at(" ".repeat(591) + "member a;^");
        valid(" ".repeat(300) + "life 7" + " ".repeat(294));
        at("life 7" + " ".repeat(593) + "^!");
    }

    /** "(nothing is appended then)" */
    private static void appendRefused() {
        int four = 0x20202020;
        CHECKS.refused("600 and 1", STATE, () -> withBytes(600), l -> l.append(0x20, 0, 0, 0, 0));
        CHECKS.refused("600 and 1 at the end", STATE, () -> withBytes(600),
                l -> l.append(0, 0, 0, 0, 0x20000000));
        CHECKS.refused("599 and 2", STATE, () -> withBytes(599),
                l -> l.append(0x20, 0, 0, 0, 0x20));
        CHECKS.refused("581 and 20", STATE, () -> withBytes(581),
                l -> l.append(four, four, four, four, four));
        CHECKS.refused("600 and 20", STATE, () -> withBytes(600),
                l -> l.append(-1, -1, -1, -1, -1));
        CHECKS.refused("597 and 4 in b", STATE, () -> withBytes(597), l -> l.append(0, four, 0, 0, 0));
        CHECKS.refused("597 and 4 in c", STATE, () -> withBytes(597), l -> l.append(0, 0, four, 0, 0));
        CHECKS.refused("597 and 4 in d", STATE, () -> withBytes(597), l -> l.append(0, 0, 0, four, 0));
        PointsLedger l = withBytes(590);
        CHECKS.thrown("590 and 11", STATE, l, x -> x.append(four, four, 0x202020, 0, 0));
        CHECKS.equal("590 and 10 afterwards", l.append(four, four, 0x2020, 0, 0), 600);
    }

    /** Promise 3: the new length is 0 to the present one. */
    private static void truncate() {
        CHECKS.equal("to the present length", withBytes(11).truncate(11), 11);
        CHECKS.equal("by one", withBytes(11).truncate(10), 10);
        CHECKS.equal("to one", withBytes(11).truncate(1), 1);
        CHECKS.equal("to nothing", withBytes(11).truncate(0), 0);
        CHECKS.equal("nothing to nothing", new PointsLedger().truncate(0), 0);
        CHECKS.equal("all 600", withBytes(600).truncate(600), 600);
        CHECKS.equal("599 of 600", withBytes(600).truncate(599), 599);
        PointsLedger l = Checks.typed("member annabob");
        l.truncate(11);
        CHECKS.equal("the length is the new one", l.append(0, 0, 0, 0, 0), 11);
        l.load();
        Checks.type(l, "ann");
        CHECKS.thrown("ann is no member", ELEMENT, l, PointsLedger::find);
        Checks.type(l, "a");
        CHECKS.equal("anna is the member", l.find(), 0);
    }

    /** "if length is negative or greater than the present length" */
    private static void truncateRefused() {
        for (int length : new int[] {-1, 11, 12, 600, Integer.MIN_VALUE, Integer.MAX_VALUE}) {
            CHECKS.refused("truncate 10 bytes to " + length, ARGUMENT, () -> withBytes(10),
                    l -> l.truncate(length));
        }
        CHECKS.refused("truncate nothing to 1", ARGUMENT, PointsLedger::new, l -> l.truncate(1));
        CHECKS.refused("truncate nothing to -1", ARGUMENT, PointsLedger::new, l -> l.truncate(-1));
        CHECKS.refused("truncate 600 bytes to 601", ARGUMENT, () -> withBytes(600),
                l -> l.truncate(601));
    }

    /** Promise 4 only checks: neither the buffer nor the setup changes, valid or not. */
    private static void errorPositionChangesNothing() {
        String[] texts = {"", "member x;life 7;tier t 0 9", "member x;life 7;tier t 0 9;house ann 0;!"};
        for (String text : texts) {
            for (Picture view : Picture.values()) {
                PointsLedger l = busyWith(text);
                l.errorPosition();
                CHECKS.same("the error position of \"" + text + "\" changes nothing: " + view,
                        view.of(l), view.of(busyWith(text)));
            }
        }
    }

    private static PointsLedger busyWith(String text) {
        PointsLedger l = Busy.ledger();
        l.truncate(0);
        Checks.type(l, text);
        return l;
    }

    /** Promise 5: "Replaces everything by the setup text": day 0, no points, .. */
    private static void loadReplacesEverything() {
        String text = "member zoe;category y 1 20;house k 70";
        for (Picture view : Picture.values()) {
            PointsLedger l = busyWith(text);
            CHECKS.equal("the number of members", l.load(), 1);
            CHECKS.same("everything is replaced: " + view, view.of(l), view.of(Checks.loaded(text)));
        }
        PointsLedger l = busyWith(text);
        l.load();
        CHECKS.equal("day 0", l.today(), 0);
        CHECKS.equal("no points", l.total(5), 0);
        CHECKS.equal("no purchases", l.purchaseCount(), 0);
        CHECKS.equal("no log entries", l.logSize(), 0);
        CHECKS.equal("no buffer", l.append(0, 0, 0, 0, 0), 0);
        CHECKS.equal("load without members", Checks.typed("life 1").load(), 0);
        CHECKS.equal("load one member", Checks.typed("member a").load(), 1);
        CHECKS.equal("load twelve members", Checks.typed(many("member N", 12)).load(), 12);
    }

    /** "Nothing can be undone; the saved copy is removed." */
    private static void loadForgets() {
        CHECKS.refused("undo behind a load", STATE, TextBoundsTest::loadedAgain, PointsLedger::undo);
        CHECKS.refused("restore behind a load", STATE, TextBoundsTest::loadedAgain,
                PointsLedger::restore);
        PointsLedger l = loadedAgain();
        CHECKS.equal("no changes", l.undoCount(), 0);
        l.advance(1);
        CHECKS.equal("a change behind it is one", l.undoCount(), 1);
        CHECKS.equal("and can be undone", l.undo(), 0);
        CHECKS.thrown("but nothing before it", STATE, l, PointsLedger::undo);
    }

    private static PointsLedger loadedAgain() {
        PointsLedger l = busyWith("member zoe");
        l.load();
        return l;
    }

    /** "if the text is not valid (the buffer is kept)" */
    private static void loadRefused() {
        String[] texts = {"", " ", "member x;", "member x;life 0", "member x;life 7;life 7",
            "member x;category c 1 1;promo d 0 0 1", "tier t 1 0", "life 12345678"};
        for (String text : texts) {
            CHECKS.refused("load \"" + text + "\"", ARGUMENT, () -> busyWith(text),
                    PointsLedger::load);
        }
        PointsLedger l = busyWith("member x;");
        CHECKS.thrown("load the broken text", ARGUMENT, l, PointsLedger::load);
        l.truncate(8);
        CHECKS.equal("mend it", l.load(), 1);
    }

    private static PointsLedger named(String text) {
        PointsLedger l = Checks.loaded("tier tee 0 0;category cee 0 0;house aitch 0;"
                + "member ann;member a;member annabe;member zed");
        Checks.type(l, text);
        return l;
    }

    /** Promise 6: "the member whose name is in the input buffer (exactly). The buffer is kept." */
    private static void findExactly() {
        String[] names = {"ann", "a", "annabe", "zed"};
        for (int member = 0; member < names.length; member++) {
            PointsLedger l = named(names[member]);
            CHECKS.equal("find " + names[member], l.find(), member);
            CHECKS.equal("find it again", l.find(), member);
            CHECKS.equal("it is kept", l.append(0, 0, 0, 0, 0), names[member].length());
        }
    }

    /** "if there is none" */
    private static void findRefused() {
        String[] others = {"", " ", "an", "annabee", "annab", "anna", "ann ", " ann", "Ann", "tee",
            "cee", "aitch", "b", "zedd", "ann;", "member ann", "a\u0001", "\u00e1", "0", "`", "{",
            " ".repeat(600), "a".repeat(600)};
        for (String other : others) {
            CHECKS.refused("find \"" + other + "\"", ELEMENT, () -> named(other), PointsLedger::find);
        }
        CHECKS.refused("find among nobody", ELEMENT, () -> Checks.typed("ann"), PointsLedger::find);
        PointsLedger l = named("member zoe");
        l.load();
        Checks.type(l, "ann");
        CHECKS.thrown("find a member of an earlier setup", ELEMENT, l, PointsLedger::find);
    }
}
