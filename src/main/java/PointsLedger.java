import java.util.NoSuchElementException;

/** A ledger for a loyalty program. What it promises stands in shared/DOC.md. */
public final class PointsLedger {
    public static final int NONE = -1;

    // The statements of a setup text, in the order in which setup(what) tells of them.
    private static final int TIER = 0;
    private static final int CATEGORY = 1;
    private static final int PROMO = 2;
    private static final int MEMBER = 3;
    private static final int HOUSE = 4;
    private static final int LIFE = 5;
    private static final int WINDOW = 6;
    private static final int GRACE = 7;
    private static final int STATEMENT_KINDS = 8;

    private static final int TIER_LIMIT = 5;
    private static final int CATEGORY_LIMIT = 8;
    private static final int PROMO_LIMIT = 8;
    private static final int MEMBER_LIMIT = 12;
    private static final int HOUSE_LIMIT = 4;
    private static final int HOUSE_MEMBER_LIMIT = 4;
    private static final int TEXT_LIMIT = 600;
    private static final int NAME_LIMIT = 6;
    private static final int DIGIT_LIMIT = 7;
    private static final int THRESHOLD_LIMIT = 1000000;
    private static final int LAST_DAY = 9999;
    private static final int CENTS_LIMIT = 100000;
    private static final int ADVANCE_LIMIT = 400;
    private static final int FORESIGHT_LIMIT = 2000;
    private static final int DEFAULT_PERIOD = 365;
    private static final int UNDO_LIMIT = 8;
    private static final int LOG_LIMIT = 30;
    private static final int KEPT_PURCHASES = 40;

    // An object answers for 512 calls. A purchase makes two new cohorts at most (one in
    // the account, one in the pool), a transfer one, so that these rows never run full.
    private static final int PURCHASE_ROOM = 512;
    private static final int COHORT_ROOM = 1024;

    // The accounts of the members are the lists 0 to 11; the pools follow them.
    private static final int LISTS = MEMBER_LIMIT + HOUSE_LIMIT;
    private static final int ANY = -2;

    // The parts of a purchase, in the order of purchasePart(.., what).
    private static final int BUYER = 0;
    private static final int BOUGHT = 1;
    private static final int CENTS = 2;
    private static final int BASE = 3;
    private static final int POINTS = 4;
    private static final int BOUGHT_ON = 5;
    private static final int REFUNDED = 6;
    private static final int PURCHASE_PARTS = 7;

    // The kinds of log entries, and the parts of an entry.
    private static final int LOG_PURCHASE = 0;
    private static final int LOG_REFUND = 1;
    private static final int LOG_REDEMPTION = 2;
    private static final int LOG_TRANSFER = 3;
    private static final int LOG_ACCOUNT_EXPIRY = 4;
    private static final int LOG_POOL_EXPIRY = 5;
    private static final int LOG_TIER = 6;
    private static final int LOG_PARTS = 4;

    // The totals that are counted up, in the order of total(what).
    private static final int EARNED = 0;
    private static final int REDEEMED = 1;
    private static final int EXPIRED = 2;
    private static final int RECLAIMED = 3;
    private static final int SETTLED = 4;
    private static final int COUNTED_TOTALS = 5;
    private static final int TOTAL_OF_POINTS = 5;
    private static final int TOTAL_OF_DEBTS = 6;
    private static final int REDEEMED_PARTS = 10;

    // What a token of a setup text is; a single other byte is its own number, below these.
    private static final int TOKEN_WORD = 256;
    private static final int TOKEN_NUMBER = 257;
    private static final int TOKEN_END = 258;

    private final InputBuffer input;
    private final Setup setup;
    private final Setup draft;
    private final SetupReader reader;
    private final Books books;
    private final Books copy;
    private final History history;
    private boolean copyKept;

    public PointsLedger() {
        input = new InputBuffer();
        setup = new Setup();
        draft = new Setup();
        reader = new SetupReader(input, draft);
        books = new Books(setup);
        copy = new Books(setup);
        history = new History(setup);
        copyKept = false;
    }

    // ---- Input

    public int append(int a, int b, int c, int d, int e) throws IllegalStateException {
        int more = InputBuffer.bytesIn(a) + InputBuffer.bytesIn(b) + InputBuffer.bytesIn(c)
                + InputBuffer.bytesIn(d) + InputBuffer.bytesIn(e);
        if (input.length() + more > TEXT_LIMIT) {
            throw new IllegalStateException("the input buffer would be too long");
        }
        input.addBytes(a);
        input.addBytes(b);
        input.addBytes(c);
        input.addBytes(d);
        input.addBytes(e);
        return input.length();
    }

    public int truncate(int length) throws IllegalArgumentException {
        needBetween(length, 0, input.length());
        input.shorten(length);
        return length;
    }

    public int errorPosition() {
        return reader.read();
    }

    public int load() throws IllegalArgumentException {
        if (reader.read() != NONE) {
            throw new IllegalArgumentException("the setup text is not valid");
        }
        setup.copyFrom(draft);
        books.reset();
        history.forget();
        copyKept = false;
        input.shorten(0);
        return setup.count(MEMBER);
    }

    public int find() throws NoSuchElementException {
        int member = setup.numberOf(MEMBER, input.nameCode(0, input.length()));
        if (member == NONE) {
            throw new NoSuchElementException("no member has this name");
        }
        return member;
    }

    // ---- Changes

    public int purchase(int member, int category, int cents)
            throws IndexOutOfBoundsException, IllegalArgumentException {
        needMember(member);
        needCategory(category);
        needBetween(cents, 1, CENTS_LIMIT);
        history.keep(books);
        return books.recordPurchase(member, category, cents);
    }

    public int refund(int purchase) throws NoSuchElementException, IllegalStateException {
        needKeptPurchase(purchase);
        if (books.purchases().part(purchase, REFUNDED) != 0) {
            throw new IllegalStateException("the purchase has been refunded");
        }
        history.keep(books);
        return books.takeBack(purchase);
    }

    public int redeem(int member, int points)
            throws IndexOutOfBoundsException, IllegalArgumentException, IllegalStateException {
        needMember(member);
        needAtLeastOne(points);
        if (books.redeemable(member) < points) {
            throw new IllegalStateException("too few points to redeem");
        }
        history.keep(books);
        return books.spend(member, points);
    }

    public int transfer(int member, int other, int points)
            throws IndexOutOfBoundsException, IllegalArgumentException, IllegalStateException {
        needMember(member);
        needMember(other);
        if (member == other) {
            throw new IllegalArgumentException("both members are the same");
        }
        needAtLeastOne(points);
        if (books.cohorts().sum(member, ANY) < points) {
            throw new IllegalStateException("too few points to transfer");
        }
        history.keep(books);
        return books.give(member, other, points);
    }

    public int join(int member, int household)
            throws IndexOutOfBoundsException, IllegalStateException {
        needMember(member);
        needHousehold(household);
        if (books.homeOf(member) != NONE) {
            throw new IllegalStateException("the member belongs to a household");
        }
        if (books.peopleIn(household) >= HOUSE_MEMBER_LIMIT) {
            throw new IllegalStateException("the household is full");
        }
        history.keep(books);
        books.enter(member, household);
        return books.peopleIn(household);
    }

    public int leave(int member) throws IndexOutOfBoundsException, IllegalStateException {
        needMember(member);
        if (books.homeOf(member) == NONE) {
            throw new IllegalStateException("the member belongs to no household");
        }
        history.keep(books);
        return books.moveOut(member);
    }

    public int setShare(int household, int percent)
            throws IndexOutOfBoundsException, IllegalArgumentException {
        needHousehold(household);
        needBetween(percent, 0, 100);
        history.keep(books);
        return books.replaceShare(household, percent);
    }

    public int advance(int days) throws IllegalArgumentException {
        needBetween(days, 1, ADVANCE_LIMIT);
        needBetween(books.day() + days, 0, LAST_DAY);
        history.keep(books);
        return books.passDays(days);
    }

    // ---- Setup

    public int setup(int what) throws IllegalArgumentException {
        needBetween(what, 0, STATEMENT_KINDS - 1);
        switch (what) {
            case LIFE:
                return setup.life();
            case WINDOW:
                return setup.window();
            case GRACE:
                return setup.grace();
            default:
                return setup.count(what);
        }
    }

    public int threshold(int tier) throws IndexOutOfBoundsException {
        if (tier < 0 || tier >= setup.count(TIER)) {
            throw new IndexOutOfBoundsException("no such tier");
        }
        return setup.thresholdOf(tier);
    }

    public int extras(int category, int day)
            throws IndexOutOfBoundsException, IllegalArgumentException {
        needCategory(category);
        needBetween(day, 0, LAST_DAY);
        return setup.extrasOn(category, day);
    }

    // ---- State

    public int today() {
        return books.day();
    }

    public int balance(int member) throws IndexOutOfBoundsException {
        needMember(member);
        return books.cohorts().sum(member, ANY);
    }

    public int debt(int member) throws IndexOutOfBoundsException {
        needMember(member);
        return books.debtOf(member);
    }

    public int available(int member) throws IndexOutOfBoundsException {
        needMember(member);
        return books.redeemable(member);
    }

    public int cohortCount(int member) throws IndexOutOfBoundsException {
        needMember(member);
        return books.cohorts().number(member);
    }

    public int cohort(int member, int index, int what)
            throws IndexOutOfBoundsException, IllegalArgumentException {
        needMember(member);
        needCohort(member, index);
        needBetween(what, 0, 1);
        return books.cohorts().part(member, index, what);
    }

    public int household(int member) throws IndexOutOfBoundsException {
        needMember(member);
        return books.homeOf(member);
    }

    public int members(int household) throws IndexOutOfBoundsException {
        needHousehold(household);
        return books.memberBits(household);
    }

    public int poolBalance(int household) throws IndexOutOfBoundsException {
        needHousehold(household);
        return books.cohorts().sum(poolList(household), ANY);
    }

    public int poolCohortCount(int household) throws IndexOutOfBoundsException {
        needHousehold(household);
        return books.cohorts().number(poolList(household));
    }

    public int poolCohort(int household, int index, int what)
            throws IndexOutOfBoundsException, IllegalArgumentException {
        needHousehold(household);
        needCohort(poolList(household), index);
        needBetween(what, 0, 2);
        return books.cohorts().part(poolList(household), index, what);
    }

    public int contributed(int member) throws IndexOutOfBoundsException {
        needMember(member);
        return books.cohorts().sum(books.poolOf(member), member);
    }

    public int total(int what) throws IllegalArgumentException {
        needBetween(what, 0, TOTAL_OF_DEBTS);
        return books.totalOf(what);
    }

    // ---- Tiers

    public int tier(int member) throws IndexOutOfBoundsException {
        needMember(member);
        return books.tierOf(member);
    }

    public int earnedTier(int member) throws IndexOutOfBoundsException {
        needMember(member);
        return setup.tierFor(books.qualifyingSum(member));
    }

    public int qualifying(int member) throws IndexOutOfBoundsException {
        needMember(member);
        return books.qualifyingSum(member);
    }

    public int belowSince(int member) throws IndexOutOfBoundsException {
        needMember(member);
        return books.belowDay(member);
    }

    public int toNextTier(int member) throws IndexOutOfBoundsException, NoSuchElementException {
        needMember(member);
        int sum = books.qualifyingSum(member);
        int next = setup.tierFor(sum) + 1;
        if (next >= setup.count(TIER)) {
            throw new NoSuchElementException("the earned tier is the last one");
        }
        return setup.thresholdOf(next) - sum;
    }

    public int tierAfter(int member, int days)
            throws IndexOutOfBoundsException, IllegalArgumentException {
        needMember(member);
        needBetween(days, 0, FORESIGHT_LIMIT);
        return books.futureTier(member, days);
    }

    // ---- Earning

    public int wouldEarn(int member, int category, int cents)
            throws IndexOutOfBoundsException, IllegalArgumentException {
        needMember(member);
        needCategory(category);
        needBetween(cents, 1, CENTS_LIMIT);
        return books.worth(member, category, cents);
    }

    public int bestCategory(int member, int cents)
            throws IndexOutOfBoundsException, IllegalArgumentException, NoSuchElementException {
        needMember(member);
        needBetween(cents, 1, CENTS_LIMIT);
        int best = books.richestCategory(member, cents);
        if (best == NONE) {
            throw new NoSuchElementException("there are no categories");
        }
        return best;
    }

    public int leastCents(int member, int category, int points)
            throws IndexOutOfBoundsException, IllegalArgumentException, NoSuchElementException {
        needMember(member);
        needCategory(category);
        needAtLeastOne(points);
        int cents = books.smallestCents(member, category, points);
        if (cents == NONE) {
            throw new NoSuchElementException("no amount has so many points");
        }
        return cents;
    }

    public int purchaseCount() {
        return books.purchases().count();
    }

    public int purchasePart(int purchase, int what)
            throws NoSuchElementException, IllegalArgumentException {
        needKeptPurchase(purchase);
        needBetween(what, 0, PURCHASE_PARTS - 1);
        return books.purchases().part(purchase, what);
    }

    // ---- Expiry and breakage

    public int expiringWithin(int member, int days)
            throws IndexOutOfBoundsException, IllegalArgumentException {
        needMember(member);
        needBetween(days, 0, FORESIGHT_LIMIT);
        return books.cohorts().sumUntil(member, books.day() + days);
    }

    public int nextExpiry(int member) throws IndexOutOfBoundsException, NoSuchElementException {
        needMember(member);
        int day = books.soonestExpiry(member);
        if (day == NONE) {
            throw new NoSuchElementException("there are no points");
        }
        return day;
    }

    public int redeemedWith(int part) throws IllegalArgumentException {
        needBetween(part, 0, REDEEMED_PARTS - 1);
        return books.redeemedIn(part);
    }

    public int breakage(int member) throws IndexOutOfBoundsException {
        needMember(member);
        return books.breakageOf(member);
    }

    public int poolBreakage(int household) throws IndexOutOfBoundsException {
        needHousehold(household);
        return books.breakageOf(poolList(household));
    }

    public int totalBreakage() {
        return books.breakageOf(ANY);
    }

    // ---- Order and log

    public int rankedMember(int index) throws IndexOutOfBoundsException {
        if (index < 0 || index >= setup.count(MEMBER)) {
            throw new IndexOutOfBoundsException("no such place in the order");
        }
        return books.memberAtRank(index);
    }

    public int logSize() {
        return books.diary().size();
    }

    public int log(int index, int what)
            throws IndexOutOfBoundsException, IllegalArgumentException {
        if (index < 0 || index >= books.diary().size()) {
            throw new IndexOutOfBoundsException("no such entry");
        }
        needBetween(what, 0, LOG_PARTS - 1);
        return books.diary().part(index, what);
    }

    // ---- History

    public int undo() throws IllegalStateException {
        if (history.count() == 0) {
            throw new IllegalStateException("there is no change to undo");
        }
        history.giveBack(books);
        return history.count();
    }

    public int undoCount() {
        return history.count();
    }

    public int save() {
        copy.copyFrom(books);
        copyKept = true;
        return books.day();
    }

    public int restore() throws IllegalStateException {
        if (!copyKept) {
            throw new IllegalStateException("there is no saved copy");
        }
        books.copyFrom(copy);
        history.forget();
        return books.day();
    }

    // ---- What a call needs

    private void needMember(int member) {
        if (member < 0 || member >= setup.count(MEMBER)) {
            throw new IndexOutOfBoundsException("no such member");
        }
    }

    private void needCategory(int category) {
        if (category < 0 || category >= setup.count(CATEGORY)) {
            throw new IndexOutOfBoundsException("no such category");
        }
    }

    private void needHousehold(int household) {
        if (household < 0 || household >= setup.count(HOUSE)) {
            throw new IndexOutOfBoundsException("no such household");
        }
    }

    private void needCohort(int list, int index) {
        if (index < 0 || index >= books.cohorts().number(list)) {
            throw new IndexOutOfBoundsException("no such cohort");
        }
    }

    private void needKeptPurchase(int purchase) {
        if (!books.purchases().isKept(purchase)) {
            throw new NoSuchElementException("no such purchase is kept");
        }
    }

    private static void needBetween(int value, int low, int high) {
        if (value < low || value > high) {
            throw new IllegalArgumentException("a number is out of range");
        }
    }

    private static void needAtLeastOne(int points) {
        if (points < 1) {
            throw new IllegalArgumentException("less than one point");
        }
    }

    private static int poolList(int household) {
        return household == NONE ? NONE : MEMBER_LIMIT + household;
    }

    /**
     * A row of numbers, behind which no index can leave its array: outside of the row one
     * reads 0 and writes nothing.
     */
    private static final class Row {
        private final int[] cells;

        Row(int length) {
            cells = new int[length < 0 ? 0 : length];
        }

        int at(int index) {
            return index >= 0 && index < cells.length ? cells[index] : 0;
        }

        void put(int index, int value) {
            if (index >= 0 && index < cells.length) {
                cells[index] = value;
            }
        }

        void increase(int index, int by) {
            if (index >= 0 && index < cells.length) {
                cells[index] += by;
            }
        }

        boolean contains(int value) {
            for (int i = 0; i < cells.length; i++) {
                if (cells[i] == value) {
                    return true;
                }
            }
            return false;
        }

        void fill(int value) {
            for (int i = 0; i < cells.length; i++) {
                cells[i] = value;
            }
        }

        int sumFrom(int first) {
            int sum = 0;
            for (int i = Math.max(first, 0); i < cells.length; i++) {
                sum += cells[i];
            }
            return sum;
        }

        void copyAll(Row other) {
            copyFirst(other, cells.length);
        }

        void copyFirst(Row other, int length) {
            int end = Math.min(length, Math.min(cells.length, other.cells.length));
            if (end > 0) {
                System.arraycopy(other.cells, 0, cells, 0, end);
            }
        }

        void move(int from, int to, int length) {
            boolean inside = from >= 0 && to >= 0 && length > 0
                    && from <= cells.length - length && to <= cells.length - length;
            if (inside) {
                System.arraycopy(cells, from, cells, to, length);
            }
        }
    }

    /** The bytes that append has brought. */
    private static final class InputBuffer {
        private final int[] bytes;
        private int length;

        InputBuffer() {
            bytes = new int[TEXT_LIMIT];
            length = 0;
        }

        int length() {
            return length;
        }

        /** The byte at this place, 0 outside of the text. */
        int byteAt(int index) {
            return index >= 0 && index < length && index < bytes.length ? bytes[index] : 0;
        }

        static int bytesIn(int word) {
            int count = 0;
            for (int shift = 24; shift >= 0; shift -= 8) {
                if ((word >>> shift & 255) != 0) {
                    count++;
                }
            }
            return count;
        }

        void addBytes(int word) {
            for (int shift = 24; shift >= 0; shift -= 8) {
                int one = word >>> shift & 255;
                if (one != 0 && length >= 0 && length < bytes.length) {
                    bytes[length] = one;
                    length++;
                }
            }
        }

        void shorten(int newLength) {
            length = newLength;
        }

        /** What the token is of which this byte is a part. */
        int tokenAt(int index) {
            if (index < 0 || index >= length || index >= bytes.length) {
                return TOKEN_END;
            }
            int one = bytes[index];
            if (one >= 'a' && one <= 'z') {
                return TOKEN_WORD;
            }
            return one >= '0' && one <= '9' ? TOKEN_NUMBER : one;
        }

        boolean spells(String word, int from, int end) {
            if (end - from != word.length() || from < 0 || end > bytes.length) {
                return false;
            }
            for (int i = 0; i < word.length(); i++) {
                if (bytes[from + i] != word.charAt(i)) {
                    return false;
                }
            }
            return true;
        }

        /**
         * The name in these bytes as a number, 0 if they are none: five bits a letter from
         * the left, so that the numbers stand in the alphabetical order of the names.
         */
        int nameCode(int from, int end) {
            if (end <= from || end - from > NAME_LIMIT) {
                return 0;
            }
            int code = 0;
            for (int i = from; i < from + NAME_LIMIT; i++) {
                if (i < end && tokenAt(i) != TOKEN_WORD) {
                    return 0;
                }
                code = code << 5 | (i < end ? byteAt(i) - 'a' + 1 : 0);
            }
            return code;
        }
    }

    /** What a setup text fixes, and the numbers that follow from it alone. */
    private static final class Setup {
        private final Row counts;
        private final Row names;
        private final Row thresholds;
        private final Row bonuses;
        private final Row rates;
        private final Row caps;
        private final Row promoCategories;
        private final Row promoFirstDays;
        private final Row promoLastDays;
        private final Row promoExtras;
        private final Row shares;
        private int life;
        private int window;
        private int grace;

        Setup() {
            counts = new Row(STATEMENT_KINDS);
            names = new Row(STATEMENT_KINDS * MEMBER_LIMIT);
            thresholds = new Row(TIER_LIMIT);
            bonuses = new Row(TIER_LIMIT);
            rates = new Row(CATEGORY_LIMIT);
            caps = new Row(CATEGORY_LIMIT);
            promoCategories = new Row(PROMO_LIMIT);
            promoFirstDays = new Row(PROMO_LIMIT);
            promoLastDays = new Row(PROMO_LIMIT);
            promoExtras = new Row(PROMO_LIMIT);
            shares = new Row(HOUSE_LIMIT);
            clear();
            finish();
        }

        void clear() {
            counts.fill(0);
            names.fill(0);
            thresholds.fill(0);
            bonuses.fill(0);
            life = DEFAULT_PERIOD;
            window = DEFAULT_PERIOD;
            grace = 0;
        }

        void finish() {
            if (counts.at(TIER) == 0) {
                counts.put(TIER, 1);
            }
        }

        void copyFrom(Setup other) {
            counts.copyAll(other.counts);
            names.copyAll(other.names);
            thresholds.copyAll(other.thresholds);
            bonuses.copyAll(other.bonuses);
            rates.copyAll(other.rates);
            caps.copyAll(other.caps);
            promoCategories.copyAll(other.promoCategories);
            promoFirstDays.copyAll(other.promoFirstDays);
            promoLastDays.copyAll(other.promoLastDays);
            promoExtras.copyAll(other.promoExtras);
            shares.copyAll(other.shares);
            life = other.life;
            window = other.window;
            grace = other.grace;
        }

        int count(int kind) {
            return counts.at(kind);
        }

        int life() {
            return life;
        }

        int window() {
            return window;
        }

        int grace() {
            return grace;
        }

        int thresholdOf(int tier) {
            return thresholds.at(tier);
        }

        int bonusOf(int tier) {
            return bonuses.at(tier);
        }

        int firstShareOf(int household) {
            return shares.at(household);
        }

        int nameOf(int kind, int number) {
            return names.at(kind * MEMBER_LIMIT + number);
        }

        /** The number of what has this name; no kind of statement has more than MEMBER_LIMIT. */
        int numberOf(int kind, int name) {
            for (int number = 0; number < counts.at(kind); number++) {
                if (name != 0 && names.at(kind * MEMBER_LIMIT + number) == name) {
                    return number;
                }
            }
            return NONE;
        }

        boolean isTaken(int name) {
            return names.contains(name);
        }

        void addTier(int name, int threshold, int bonus) {
            int number = define(TIER, name);
            thresholds.put(number, threshold);
            bonuses.put(number, bonus);
        }

        void addCategory(int name, int rate, int cap) {
            int number = define(CATEGORY, name);
            rates.put(number, rate);
            caps.put(number, cap);
        }

        void addPromo(int category, int firstDay, int lastDay, int extra) {
            int number = define(PROMO, 0);
            promoCategories.put(number, category);
            promoFirstDays.put(number, firstDay);
            promoLastDays.put(number, lastDay);
            promoExtras.put(number, extra);
        }

        void addMember(int name) {
            define(MEMBER, name);
        }

        void addHouse(int name, int share) {
            shares.put(define(HOUSE, name), share);
        }

        void fixLife(int days) {
            define(LIFE, 0);
            life = days;
        }

        void fixWindow(int days) {
            define(WINDOW, 0);
            window = days;
        }

        void fixGrace(int days) {
            define(GRACE, 0);
            grace = days;
        }

        private int define(int kind, int name) {
            int number = counts.at(kind);
            names.put(kind * MEMBER_LIMIT + number, name);
            counts.put(kind, number + 1);
            return number;
        }

        int baseOf(int category, int cents) {
            int base = cents * rates.at(category) / 100;
            int cap = caps.at(category);
            return cap == 0 ? base : Math.min(base, cap);
        }

        int extrasOn(int category, int day) {
            int sum = 0;
            for (int i = 0; i < counts.at(PROMO); i++) {
                if (promoCategories.at(i) == category
                        && promoFirstDays.at(i) <= day && day <= promoLastDays.at(i)) {
                    sum += promoExtras.at(i);
                }
            }
            return sum;
        }

        int tierFor(int sum) {
            int tier = 0;
            for (int next = 1; next < counts.at(TIER); next++) {
                if (thresholds.at(next) <= sum) {
                    tier = next;
                }
            }
            return tier;
        }

        /** Which tenth of their life points have reached. */
        int partOfLife(int expiry, int today) {
            if (life < 1) {
                return 0;
            }
            return Math.min((today - (expiry - life)) * 10 / life, REDEEMED_PARTS - 1);
        }
    }

    /** Reads the input buffer as a setup text into a draft. */
    private static final class SetupReader {
        private final InputBuffer text;
        private final Setup draft;
        private int position;
        private int start;
        private int token;
        private int error;

        SetupReader(InputBuffer text, Setup draft) {
            this.text = text;
            this.draft = draft;
        }

        /** Returns the error position; the draft is complete if that is NONE. */
        int read() {
            draft.clear();
            position = 0;
            error = NONE;
            // Each round reads a token or ends, so that there can't be more than bytes.
            for (int round = 0; round <= text.length(); round++) {
                readStatement();
                if (error != NONE) {
                    return error;
                }
                readToken();
                if (token == TOKEN_END) {
                    draft.finish();
                    return NONE;
                }
                if (token != ';') {
                    return start;
                }
            }
            return text.length();
        }

        private void readToken() {
            int end = text.length();
            while (position < end && text.byteAt(position) == ' ') {
                position++;
            }
            start = position;
            token = text.tokenAt(position);
            if (token == TOKEN_WORD || token == TOKEN_NUMBER) {
                while (position < end && text.tokenAt(position) == token) {
                    position++;
                }
            } else if (token != TOKEN_END) {
                position++;
            }
        }

        private void readStatement() {
            readToken();
            int kind = keyword();
            if (kind == NONE || draft.count(kind) >= mostOf(kind)) {
                refuse();
                return;
            }
            switch (kind) {
                case TIER:
                    readTier();
                    break;
                case CATEGORY:
                    readCategory();
                    break;
                case PROMO:
                    readPromo();
                    break;
                case MEMBER:
                    readMember();
                    break;
                case HOUSE:
                    readHouse();
                    break;
                default:
                    readPeriod(kind);
                    break;
            }
        }

        private void readTier() {
            int before = draft.count(TIER);
            int name = readNewName();
            int threshold = before == 0 ? readNumber(0, 0)
                    : readNumber(draft.thresholdOf(before - 1) + 1, THRESHOLD_LIMIT);
            int bonus = readNumber(0, 300);
            if (error == NONE) {
                draft.addTier(name, threshold, bonus);
            }
        }

        private void readCategory() {
            int name = readNewName();
            int rate = readNumber(0, 50);
            int cap = readNumber(0, 100000);
            if (error == NONE) {
                draft.addCategory(name, rate, cap);
            }
        }

        private void readPromo() {
            int category = readCategoryName();
            int firstDay = readNumber(0, LAST_DAY);
            int lastDay = readNumber(firstDay, LAST_DAY);
            int extra = readNumber(1, 500);
            if (error == NONE) {
                draft.addPromo(category, firstDay, lastDay, extra);
            }
        }

        private void readMember() {
            int name = readNewName();
            if (error == NONE) {
                draft.addMember(name);
            }
        }

        private void readHouse() {
            int name = readNewName();
            int share = readNumber(0, 100);
            if (error == NONE) {
                draft.addHouse(name, share);
            }
        }

        private void readPeriod(int kind) {
            int days = kind == GRACE ? readNumber(0, 400) : readNumber(1, 1000);
            if (error != NONE) {
                return;
            }
            if (kind == LIFE) {
                draft.fixLife(days);
            } else if (kind == WINDOW) {
                draft.fixWindow(days);
            } else {
                draft.fixGrace(days);
            }
        }

        private int readNumber(int low, int high) {
            if (error != NONE) {
                return 0;
            }
            readToken();
            if (token != TOKEN_NUMBER || position - start > DIGIT_LIMIT) {
                refuse();
                return 0;
            }
            int value = 0;
            for (int i = start; i < position; i++) {
                value = value * 10 + text.byteAt(i) - '0';
            }
            if (value < low || value > high) {
                refuse();
            }
            return value;
        }

        private int readNewName() {
            readToken();
            int name = text.nameCode(start, position);
            if (token != TOKEN_WORD || name == 0 || keyword() != NONE || draft.isTaken(name)) {
                refuse();
            }
            return name;
        }

        private int readCategoryName() {
            readToken();
            int category = token == TOKEN_WORD
                    ? draft.numberOf(CATEGORY, text.nameCode(start, position)) : NONE;
            if (category == NONE) {
                refuse();
            }
            return category;
        }

        private void refuse() {
            if (error == NONE) {
                error = start;
            }
        }

        /** The kind of statement that the token begins; NONE if it is no such word. */
        private int keyword() {
            for (int kind = 0; kind < STATEMENT_KINDS; kind++) {
                if (token == TOKEN_WORD && text.spells(wordOf(kind), start, position)) {
                    return kind;
                }
            }
            return NONE;
        }

        private static String wordOf(int kind) {
            switch (kind) {
                case TIER:
                    return "tier";
                case CATEGORY:
                    return "category";
                case PROMO:
                    return "promo";
                case MEMBER:
                    return "member";
                case HOUSE:
                    return "house";
                case LIFE:
                    return "life";
                case WINDOW:
                    return "window";
                default:
                    return "grace";
            }
        }

        private static int mostOf(int kind) {
            switch (kind) {
                case TIER:
                    return TIER_LIMIT;
                case CATEGORY:
                    return CATEGORY_LIMIT;
                case PROMO:
                    return PROMO_LIMIT;
                case MEMBER:
                    return MEMBER_LIMIT;
                case HOUSE:
                    return HOUSE_LIMIT;
                default:
                    return 1;
            }
        }
    }

    /**
     * The cohorts of all accounts and pools, in the order of the lists, in a list in that of
     * the days of expiry, then of the contributors (NONE in an account).
     */
    private static final class Cohorts {
        private final Row lists;
        private final Row days;
        private final Row contributors;
        private final Row points;
        private int size;

        Cohorts() {
            lists = new Row(COHORT_ROOM);
            days = new Row(COHORT_ROOM);
            contributors = new Row(COHORT_ROOM);
            points = new Row(COHORT_ROOM);
            size = 0;
        }

        void clear() {
            size = 0;
        }

        void copyFrom(Cohorts other) {
            lists.copyFirst(other.lists, other.size);
            days.copyFirst(other.days, other.size);
            contributors.copyFirst(other.contributors, other.size);
            points.copyFirst(other.points, other.size);
            size = other.size;
        }

        int size() {
            return size;
        }

        int dayOf(int place) {
            return days.at(place);
        }

        int pointsOf(int place) {
            return points.at(place);
        }

        boolean isIn(int place, int list) {
            return list == ANY || lists.at(place) == list;
        }

        /** The first cohort of a list with this day and contributor, each of which may be ANY. */
        int first(int list, int day, int contributor) {
            for (int place = 0; place < size; place++) {
                if (isIn(place, list) && (day == ANY || days.at(place) == day)
                        && (contributor == ANY || contributors.at(place) == contributor)) {
                    return place;
                }
            }
            return NONE;
        }

        int number(int list) {
            int count = 0;
            for (int place = 0; place < size; place++) {
                if (isIn(place, list)) {
                    count++;
                }
            }
            return count;
        }

        int part(int list, int index, int what) {
            int place = first(list, ANY, ANY) + index;
            if (what == 0) {
                return points.at(place);
            }
            return what == 1 ? days.at(place) : contributors.at(place);
        }

        int sum(int list, int contributor) {
            int sum = 0;
            for (int place = 0; place < size; place++) {
                if (isIn(place, list)
                        && (contributor == ANY || contributors.at(place) == contributor)) {
                    sum += points.at(place);
                }
            }
            return sum;
        }

        int sumUntil(int list, int lastDay) {
            int sum = 0;
            for (int place = 0; place < size; place++) {
                if (isIn(place, list) && days.at(place) <= lastDay) {
                    sum += points.at(place);
                }
            }
            return sum;
        }

        void put(int list, int day, int contributor, int number) {
            if (number < 1) {
                return;
            }
            int place = 0;
            while (place < size && isBefore(place, list, day, contributor)) {
                place++;
            }
            boolean stands = place < size && lists.at(place) == list
                    && days.at(place) == day && contributors.at(place) == contributor;
            if (stands) {
                points.increase(place, number);
            } else if (size < COHORT_ROOM) {
                shift(place, place + 1);
                lists.put(place, list);
                days.put(place, day);
                contributors.put(place, contributor);
                points.put(place, number);
            }
        }

        private boolean isBefore(int place, int list, int day, int contributor) {
            if (lists.at(place) != list) {
                return lists.at(place) < list;
            }
            if (days.at(place) != day) {
                return days.at(place) < day;
            }
            return contributors.at(place) < contributor;
        }

        /** Moves the cohorts from a place on to another place, and with them the end. */
        private void shift(int from, int to) {
            lists.move(from, to, size - from);
            days.move(from, to, size - from);
            contributors.move(from, to, size - from);
            points.move(from, to, size - from);
            size += to - from;
        }

        /** Takes so many points from one cohort, as far as it has them; returns how many. */
        int take(int place, int wanted) {
            int taken = Math.min(wanted, points.at(place));
            points.increase(place, -taken);
            if (points.at(place) == 0) {
                shift(place + 1, place);
            }
            return taken;
        }

        int takeFromAll(int list, int day, int contributor, int wanted) {
            int left = wanted;
            for (int round = size; round > 0 && left > 0; round--) {
                int place = first(list, day, contributor);
                if (place == NONE) {
                    break;
                }
                left -= take(place, left);
            }
            return wanted - left;
        }

        /** Removes what expires on this day, and adds the points of each list to its loss. */
        void expire(int today, Row losses) {
            int kept = 0;
            for (int place = 0; place < size; place++) {
                if (days.at(place) <= today) {
                    losses.increase(lists.at(place), points.at(place));
                } else {
                    if (kept < place) {
                        lists.move(place, kept, 1);
                        days.move(place, kept, 1);
                        contributors.move(place, kept, 1);
                        points.move(place, kept, 1);
                    }
                    kept++;
                }
            }
            size = kept;
        }
    }

    /**
     * All purchases since the setup, in the order of their days: also the bases of those
     * that are not kept any more count for the tiers.
     */
    private static final class Purchases {
        private final Row parts;
        private int count;

        Purchases() {
            parts = new Row(PURCHASE_ROOM * PURCHASE_PARTS);
            count = 0;
        }

        void clear() {
            count = 0;
        }

        void copyFrom(Purchases other) {
            parts.copyFirst(other.parts, other.count * PURCHASE_PARTS);
            count = other.count;
        }

        int count() {
            return count;
        }

        boolean isKept(int purchase) {
            return purchase >= 0 && purchase < count && purchase >= count - KEPT_PURCHASES;
        }

        int part(int purchase, int what) {
            return parts.at(purchase * PURCHASE_PARTS + what);
        }

        void add(int member, int category, int cents, int base, int points, int day) {
            int at = count * PURCHASE_PARTS;
            parts.put(at + BUYER, member);
            parts.put(at + BOUGHT, category);
            parts.put(at + CENTS, cents);
            parts.put(at + BASE, base);
            parts.put(at + POINTS, points);
            parts.put(at + BOUGHT_ON, day);
            parts.put(at + REFUNDED, 0);
            count++;
        }

        void markRefunded(int purchase) {
            parts.put(purchase * PURCHASE_PARTS + REFUNDED, 1);
        }

        /** The first purchase from this one on that was made after this day. */
        int firstAfter(int from, int day) {
            int next = from;
            while (next < count && part(next, BOUGHT_ON) <= day) {
                next++;
            }
            return next;
        }

        /** What these purchases add to the qualifying sum of a member. */
        int basesOf(int member, int from, int end) {
            int sum = 0;
            for (int i = from; i < end; i++) {
                if (part(i, BUYER) == member && part(i, REFUNDED) == 0) {
                    sum += part(i, BASE);
                }
            }
            return sum;
        }
    }

    /** The latest entries of the log; the oldest one gives its place to a new one. */
    private static final class LogBook {
        private final Row parts;
        private int next;
        private int size;

        LogBook() {
            parts = new Row(LOG_LIMIT * LOG_PARTS);
            next = 0;
            size = 0;
        }

        void clear() {
            next = 0;
            size = 0;
        }

        void copyFrom(LogBook other) {
            parts.copyAll(other.parts);
            next = other.next;
            size = other.size;
        }

        int size() {
            return size;
        }

        int part(int index, int what) {
            int entry = next - 1 - index;
            return parts.at((entry < 0 ? entry + LOG_LIMIT : entry) * LOG_PARTS + what);
        }

        void add(int kind, int day, int subject, int number) {
            int at = next * LOG_PARTS;
            parts.put(at, kind);
            parts.put(at + 1, day);
            parts.put(at + 2, subject);
            parts.put(at + 3, number);
            next = next + 1 < LOG_LIMIT ? next + 1 : 0;
            size = Math.min(size + 1, LOG_LIMIT);
        }
    }

    /** The present tier of a member while it is checked, truly or only in a forecast. */
    private static final class Standing {
        private int tier;
        private int since;

        void start(int presentTier, int belowSince) {
            tier = presentTier;
            since = belowSince;
        }

        int presentTier() {
            return tier;
        }

        int belowDay() {
            return since;
        }

        void check(int earned, int day, int grace) {
            if (earned >= tier) {
                tier = earned;
                since = NONE;
                return;
            }
            if (since == NONE) {
                since = day;
            }
            if (day - since >= grace) {
                tier = earned;
                since = NONE;
            }
        }
    }

    /** All that changes can change, and that is undone, saved and restored. */
    private static final class Books {
        private final Setup setup;
        private final Cohorts cohorts;
        private final Purchases purchases;
        private final LogBook diary;
        private final Row tiers;
        private final Row belowSince;
        private final Row debts;
        private final Row homes;
        private final Row qualifying;
        private final Row shares;
        private final Row redeemed;
        private final Row totals;
        private final Row losses;
        private final Row balances;
        private final Standing standing;
        private int day;
        private int windowStart;

        Books(Setup setup) {
            this.setup = setup;
            cohorts = new Cohorts();
            purchases = new Purchases();
            diary = new LogBook();
            tiers = new Row(MEMBER_LIMIT);
            belowSince = new Row(MEMBER_LIMIT);
            debts = new Row(MEMBER_LIMIT);
            homes = new Row(MEMBER_LIMIT);
            qualifying = new Row(MEMBER_LIMIT);
            shares = new Row(HOUSE_LIMIT);
            redeemed = new Row(REDEEMED_PARTS);
            totals = new Row(COUNTED_TOTALS);
            losses = new Row(LISTS);
            balances = new Row(MEMBER_LIMIT);
            standing = new Standing();
            reset();
        }

        void reset() {
            cohorts.clear();
            purchases.clear();
            diary.clear();
            tiers.fill(0);
            belowSince.fill(NONE);
            debts.fill(0);
            homes.fill(NONE);
            qualifying.fill(0);
            redeemed.fill(0);
            totals.fill(0);
            for (int household = 0; household < HOUSE_LIMIT; household++) {
                shares.put(household, setup.firstShareOf(household));
            }
            day = 0;
            windowStart = 0;
        }

        void copyFrom(Books other) {
            cohorts.copyFrom(other.cohorts);
            purchases.copyFrom(other.purchases);
            diary.copyFrom(other.diary);
            tiers.copyAll(other.tiers);
            belowSince.copyAll(other.belowSince);
            debts.copyAll(other.debts);
            homes.copyAll(other.homes);
            qualifying.copyAll(other.qualifying);
            shares.copyAll(other.shares);
            redeemed.copyAll(other.redeemed);
            totals.copyAll(other.totals);
            day = other.day;
            windowStart = other.windowStart;
        }

        int day() {
            return day;
        }

        Cohorts cohorts() {
            return cohorts;
        }

        Purchases purchases() {
            return purchases;
        }

        LogBook diary() {
            return diary;
        }

        int tierOf(int member) {
            return tiers.at(member);
        }

        int belowDay(int member) {
            return belowSince.at(member);
        }

        int debtOf(int member) {
            return debts.at(member);
        }

        int homeOf(int member) {
            return homes.at(member);
        }

        int poolOf(int member) {
            return poolList(homes.at(member));
        }

        int qualifyingSum(int member) {
            return qualifying.at(member);
        }

        int redeemedIn(int part) {
            return redeemed.at(part);
        }

        int redeemable(int member) {
            return cohorts.sum(member, ANY) + cohorts.sum(poolOf(member), ANY);
        }

        int memberBits(int household) {
            int bits = 0;
            for (int member = 0; member < setup.count(MEMBER); member++) {
                if (homes.at(member) == household) {
                    bits |= 1 << member;
                }
            }
            return bits;
        }

        int peopleIn(int household) {
            return Integer.bitCount(memberBits(household));
        }

        int totalOf(int what) {
            if (what == TOTAL_OF_POINTS) {
                return cohorts.sum(ANY, ANY);
            }
            return what == TOTAL_OF_DEBTS ? debts.sumFrom(0) : totals.at(what);
        }

        int worth(int member, int category, int cents) {
            int percent = 100 + setup.bonusOf(tiers.at(member)) + setup.extrasOn(category, day);
            return setup.baseOf(category, cents) * percent / 100;
        }

        int richestCategory(int member, int cents) {
            int best = NONE;
            int most = NONE;
            for (int category = 0; category < setup.count(CATEGORY); category++) {
                int points = worth(member, category, cents);
                if (points > most) {
                    best = category;
                    most = points;
                }
            }
            return best;
        }

        /** More cents never have fewer points, so that halving finds the smallest amount. */
        int smallestCents(int member, int category, int points) {
            if (worth(member, category, CENTS_LIMIT) < points) {
                return NONE;
            }
            int low = 1;
            int high = CENTS_LIMIT;
            for (int halvings = 17; halvings > 0 && low < high; halvings--) {
                int middle = (low + high) / 2;
                if (worth(member, category, middle) < points) {
                    low = middle + 1;
                } else {
                    high = middle;
                }
            }
            return low;
        }

        int recordPurchase(int member, int category, int cents) {
            int base = setup.baseOf(category, cents);
            int points = worth(member, category, cents);
            purchases.add(member, category, cents, base, points, day);
            qualifying.increase(member, base);
            totals.increase(EARNED, points);
            int home = homes.at(member);
            int pooled = home == NONE ? 0 : points * shares.at(home) / 100;
            int expiry = day + setup.life();
            cohorts.put(poolList(home), expiry, member, pooled);
            credit(member, expiry, points - pooled);
            diary.add(LOG_PURCHASE, day, member, points);
            checkTier(member);
            return points;
        }

        /** Returns how many of the points are settled. */
        private int credit(int member, int expiry, int points) {
            int settled = Math.min(points, debts.at(member));
            debts.increase(member, -settled);
            totals.increase(SETTLED, settled);
            cohorts.put(member, expiry, NONE, points - settled);
            return settled;
        }

        /** Returns the increase of the debt. */
        int takeBack(int purchase) {
            int member = purchases.part(purchase, BUYER);
            int points = purchases.part(purchase, POINTS);
            int expiry = purchases.part(purchase, BOUGHT_ON) + setup.life();
            int pool = poolOf(member);
            int missing = points;
            missing -= cohorts.takeFromAll(member, expiry, ANY, missing);
            missing -= cohorts.takeFromAll(pool, expiry, member, missing);
            missing -= cohorts.takeFromAll(member, ANY, ANY, missing);
            missing -= cohorts.takeFromAll(pool, ANY, member, missing);
            debts.increase(member, missing);
            totals.increase(RECLAIMED, points - missing);
            if (purchase >= windowStart) {
                qualifying.increase(member, -purchases.part(purchase, BASE));
            }
            purchases.markRefunded(purchase);
            diary.add(LOG_REFUND, day, member, points - missing);
            checkTier(member);
            return missing;
        }

        /** Returns how many points are taken from the pool. */
        int spend(int member, int points) {
            int own = spendFrom(member, points);
            int pooled = spendFrom(poolOf(member), points - own);
            totals.increase(REDEEMED, points);
            diary.add(LOG_REDEMPTION, day, member, points);
            return pooled;
        }

        private int spendFrom(int list, int points) {
            int left = points;
            for (int round = cohorts.size(); round > 0 && left > 0; round--) {
                int place = cohorts.first(list, ANY, ANY);
                if (place == NONE) {
                    break;
                }
                int part = setup.partOfLife(cohorts.dayOf(place), day);
                int taken = cohorts.take(place, left);
                redeemed.increase(part, taken);
                left -= taken;
            }
            return points - left;
        }

        /** Returns how many of the points are settled. */
        int give(int member, int other, int points) {
            int settled = 0;
            int left = points;
            for (int round = cohorts.size(); round > 0 && left > 0; round--) {
                int place = cohorts.first(member, ANY, ANY);
                if (place == NONE) {
                    break;
                }
                int expiry = cohorts.dayOf(place);
                int taken = cohorts.take(place, left);
                settled += credit(other, expiry, taken);
                left -= taken;
            }
            diary.add(LOG_TRANSFER, day, member, points);
            return settled;
        }

        void enter(int member, int household) {
            homes.put(member, household);
        }

        /** Returns how many points leave the pool. */
        int moveOut(int member) {
            int pool = poolOf(member);
            int removed = 0;
            for (int round = cohorts.size(); round > 0; round--) {
                int place = cohorts.first(pool, ANY, member);
                if (place == NONE) {
                    break;
                }
                int expiry = cohorts.dayOf(place);
                int taken = cohorts.take(place, cohorts.pointsOf(place));
                credit(member, expiry, taken);
                removed += taken;
            }
            homes.put(member, NONE);
            return removed;
        }

        int replaceShare(int household, int percent) {
            int previous = shares.at(household);
            shares.put(household, percent);
            return previous;
        }

        /** Returns how many points expire. */
        int passDays(int days) {
            int expired = 0;
            for (int i = 0; i < days; i++) {
                day++;
                expired += expire();
                shrinkWindow();
                for (int member = 0; member < setup.count(MEMBER); member++) {
                    checkTier(member);
                }
            }
            return expired;
        }

        private int expire() {
            losses.fill(0);
            cohorts.expire(day, losses);
            for (int list = 0; list < LISTS; list++) {
                int lost = losses.at(list);
                if (lost > 0 && list < MEMBER_LIMIT) {
                    diary.add(LOG_ACCOUNT_EXPIRY, day, list, lost);
                } else if (lost > 0) {
                    diary.add(LOG_POOL_EXPIRY, day, list - MEMBER_LIMIT, lost);
                }
            }
            int expired = losses.sumFrom(0);
            totals.increase(EXPIRED, expired);
            return expired;
        }

        private void shrinkWindow() {
            int end = purchases.firstAfter(windowStart, day - setup.window());
            for (int member = 0; member < setup.count(MEMBER); member++) {
                qualifying.increase(member, -purchases.basesOf(member, windowStart, end));
            }
            windowStart = end;
        }

        private void checkTier(int member) {
            int before = tiers.at(member);
            standing.start(before, belowSince.at(member));
            standing.check(setup.tierFor(qualifying.at(member)), day, setup.grace());
            tiers.put(member, standing.presentTier());
            belowSince.put(member, standing.belowDay());
            if (standing.presentTier() != before) {
                diary.add(LOG_TIER, day, member, standing.presentTier());
            }
        }

        int futureTier(int member, int days) {
            standing.start(tiers.at(member), belowSince.at(member));
            int sum = qualifying.at(member);
            int start = windowStart;
            for (int later = day + 1; later <= day + days; later++) {
                int end = purchases.firstAfter(start, later - setup.window());
                sum -= purchases.basesOf(member, start, end);
                start = end;
                standing.check(setup.tierFor(sum), later, setup.grace());
            }
            return standing.presentTier();
        }

        int soonestExpiry(int member) {
            int own = cohorts.first(member, ANY, ANY);
            int pooled = cohorts.first(poolOf(member), ANY, ANY);
            if (own == NONE) {
                return pooled == NONE ? NONE : cohorts.dayOf(pooled);
            }
            return pooled == NONE ? cohorts.dayOf(own)
                    : Math.min(cohorts.dayOf(own), cohorts.dayOf(pooled));
        }

        int breakageOf(int list) {
            int sum = 0;
            for (int place = 0; place < cohorts.size(); place++) {
                if (cohorts.isIn(place, list)) {
                    sum += estimate(cohorts.pointsOf(place), cohorts.dayOf(place));
                }
            }
            return sum;
        }

        private int estimate(int points, int expiry) {
            long expired = totals.at(EXPIRED);
            long whole = expired + redeemed.sumFrom(setup.partOfLife(expiry, day));
            return whole <= 0 ? 0 : (int) (points * expired / whole);
        }

        int memberAtRank(int index) {
            int count = setup.count(MEMBER);
            for (int member = 0; member < count; member++) {
                balances.put(member, cohorts.sum(member, ANY));
            }
            for (int member = 0; member < count; member++) {
                int ahead = 0;
                for (int other = 0; other < count; other++) {
                    if (ranksBefore(other, member)) {
                        ahead++;
                    }
                }
                if (ahead == index) {
                    return member;
                }
            }
            return NONE;
        }

        private boolean ranksBefore(int one, int other) {
            if (tiers.at(one) != tiers.at(other)) {
                return tiers.at(one) > tiers.at(other);
            }
            if (balances.at(one) != balances.at(other)) {
                return balances.at(one) > balances.at(other);
            }
            return setup.nameOf(MEMBER, one) < setup.nameOf(MEMBER, other);
        }
    }

    /** The books as they were before each of the latest changes. */
    private static final class History {
        private final Books[] kept;
        private int newest;
        private int count;

        History(Setup setup) {
            kept = new Books[UNDO_LIMIT];
            for (int i = 0; i < kept.length; i++) {
                kept[i] = new Books(setup);
            }
            newest = 0;
            count = 0;
        }

        void forget() {
            count = 0;
        }

        int count() {
            return count;
        }

        void keep(Books books) {
            newest = newest + 1 < kept.length ? newest + 1 : 0;
            Books slot = newestSlot();
            if (slot != null) {
                slot.copyFrom(books);
                count = Math.min(count + 1, kept.length);
            }
        }

        void giveBack(Books books) {
            Books slot = newestSlot();
            if (slot != null && count > 0) {
                books.copyFrom(slot);
                newest = newest > 0 ? newest - 1 : kept.length - 1;
                count--;
            }
        }

        private Books newestSlot() {
            return newest >= 0 && newest < kept.length ? kept[newest] : null;
        }
    }
}
