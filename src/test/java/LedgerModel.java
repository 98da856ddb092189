import java.util.ArrayList;
import java.util.List;
import java.util.NoSuchElementException;
import java.util.TreeMap;
import java.util.function.IntPredicate;
import java.util.regex.Matcher;
import java.util.regex.Pattern;

/**
 * The words of the document once more, as plainly and as slowly as they come: nothing is
 * counted up that can be summed, each copy is a whole one. Its methods are those of the face.
 */
public final class LedgerModel {
    private static final int NONE = -1;

    private record Tier(int threshold, int bonus) { }

    private record Category(String name, int rate, int cap) { }

    private record Promo(int category, int from, int to, int extra) { }

    private record House(String name, int share) { }

    /** A setup, or the position at which a text is none. */
    private static final class Rules {
        final List<String> names = new ArrayList<>();
        final List<Tier> tiers = new ArrayList<>();
        final List<Category> categories = new ArrayList<>();
        final List<Promo> promos = new ArrayList<>();
        final List<String> members = new ArrayList<>();
        final List<House> houses = new ArrayList<>();
        int life = NONE;
        int window = NONE;
        int grace = NONE;
        int error = NONE;

        Rules finished() {
            if (tiers.isEmpty()) {
                tiers.add(new Tier(0, 0));
            }
            life = life == NONE ? 365 : life;
            window = window == NONE ? 365 : window;
            grace = grace == NONE ? 0 : grace;
            return this;
        }
    }

    private record Token(String text, int offset) { }

    /** Thrown where a token can't be accepted. */
    private static final class Refused extends Exception {
        private static final long serialVersionUID = 1;
        final int offset;

        Refused(int offset) {
            this.offset = offset;
        }
    }

    private static final class Parser {
        final List<Token> tokens = new ArrayList<>();
        final Rules rules = new Rules();
        int next = 0;

        Parser(String text) {
            Matcher matcher = Pattern.compile("[a-z]+|[0-9]+|[^ ]", Pattern.DOTALL).matcher(text);
            while (matcher.find()) {
                tokens.add(new Token(matcher.group(), matcher.start()));
            }
            tokens.add(new Token("", text.length()));
        }

        Rules parse() {
            try {
                statement();
                while (!peek().isEmpty()) {
                    if (!peek().equals(";")) {
                        throw new Refused(tokens.get(next).offset);
                    }
                    next++;
                    statement();
                }
            } catch (Refused e) {
                rules.error = e.offset;
            }
            return rules.finished();
        }

        String peek() {
            return tokens.get(next).text;
        }

        void need(boolean acceptable) throws Refused {
            if (!acceptable) {
                throw new Refused(tokens.get(next).offset);
            }
        }

        void statement() throws Refused {
            switch (peek()) {
                case "tier" -> {
                    need(rules.tiers.size() < 5);
                    next++;
                    name();
                    int least = 0;
                    int most = 0;
                    if (!rules.tiers.isEmpty()) {
                        least = rules.tiers.get(rules.tiers.size() - 1).threshold + 1;
                        most = 1000000;
                    }
                    rules.tiers.add(new Tier(number(least, most), number(0, 300)));
                }
                case "category" -> {
                    need(rules.categories.size() < 8);
                    next++;
                    String name = name();
                    rules.categories.add(new Category(name, number(0, 50), number(0, 100000)));
                }
                case "promo" -> {
                    need(rules.promos.size() < 8);
                    next++;
                    int category = category();
                    int from = number(0, 9999);
                    rules.promos.add(new Promo(category, from, number(from, 9999), number(1, 500)));
                }
                case "member" -> {
                    need(rules.members.size() < 12);
                    next++;
                    rules.members.add(name());
                }
                case "house" -> {
                    need(rules.houses.size() < 4);
                    next++;
                    String name = name();
                    rules.houses.add(new House(name, number(0, 100)));
                }
                case "life" -> {
                    need(rules.life == NONE);
                    next++;
                    rules.life = number(1, 1000);
                }
                case "window" -> {
                    need(rules.window == NONE);
                    next++;
                    rules.window = number(1, 1000);
                }
                case "grace" -> {
                    need(rules.grace == NONE);
                    next++;
                    rules.grace = number(0, 400);
                }
                default -> need(false);
            }
        }

        String name() throws Refused {
            String name = peek();
            need(name.matches("[a-z]{1,6}"));
            need(!List.of("tier", "category", "promo", "member", "house", "life", "window",
                    "grace").contains(name));
            need(!rules.names.contains(name));
            rules.names.add(name);
            next++;
            return name;
        }

        int category() throws Refused {
            for (int i = 0; i < rules.categories.size(); i++) {
                if (rules.categories.get(i).name.equals(peek())) {
                    next++;
                    return i;
                }
            }
            throw new Refused(tokens.get(next).offset);
        }

        int number(int least, int most) throws Refused {
            need(peek().matches("[0-9]{1,7}"));
            int value = Integer.parseInt(peek());
            need(value >= least && value <= most);
            next++;
            return value;
        }
    }

    private static final class Purchase {
        int member;
        int category;
        int cents;
        int base;
        int points;
        int day;
        boolean refunded;

        Purchase copy() {
            Purchase p = new Purchase();
            p.member = member;
            p.category = category;
            p.cents = cents;
            p.base = base;
            p.points = points;
            p.day = day;
            p.refunded = refunded;
            return p;
        }
    }

    /** Cohorts by (day of expiry * 16 + contributor); the contributor is 0 in an account. */
    private static final class Cohorts extends TreeMap<Integer, Integer> {
        private static final long serialVersionUID = 1;

        void put(int day, int contributor, int points) {
            if (points > 0) {
                merge(day * 16 + contributor, points, Integer::sum);
            }
        }

        int points() {
            return values().stream().mapToInt(Integer::intValue).sum();
        }

        int pointsOf(int contributor) {
            int sum = 0;
            for (var cohort : entrySet()) {
                sum += cohort.getKey() % 16 == contributor ? cohort.getValue() : 0;
            }
            return sum;
        }

        /** What is taken, as pairs of a key and points. */
        List<int[]> take(int wanted, IntPredicate which) {
            List<int[]> taken = new ArrayList<>();
            int left = wanted;
            for (int key : new ArrayList<>(keySet())) {
                if (left > 0 && which.test(key)) {
                    int n = Math.min(left, get(key));
                    taken.add(new int[] {key, n});
                    left -= n;
                    if (get(key) == n) {
                        remove(key);
                    } else {
                        put(key, get(key) - n);
                    }
                }
            }
            return taken;
        }

        static int sum(List<int[]> taken) {
            return taken.stream().mapToInt(t -> t[1]).sum();
        }
    }

    private static final class State {
        int day = 0;
        final List<Cohorts> accounts = new ArrayList<>();
        final List<Cohorts> pools = new ArrayList<>();
        final int[] debts = new int[12];
        final int[] tiers = new int[12];
        final int[] since = new int[12];
        final int[] homes = new int[12];
        final int[] shares = new int[4];
        final List<Purchase> purchases = new ArrayList<>();
        final List<int[]> log = new ArrayList<>();
        final int[] redeemed = new int[10];
        final int[] totals = new int[5];

        State() {
            for (int i = 0; i < 12; i++) {
                accounts.add(new Cohorts());
                since[i] = NONE;
                homes[i] = NONE;
            }
            for (int i = 0; i < 4; i++) {
                pools.add(new Cohorts());
            }
        }

        State copy() {
            State s = new State();
            s.day = day;
            for (int i = 0; i < 12; i++) {
                s.accounts.get(i).putAll(accounts.get(i));
            }
            for (int i = 0; i < 4; i++) {
                s.pools.get(i).putAll(pools.get(i));
            }
            System.arraycopy(debts, 0, s.debts, 0, 12);
            System.arraycopy(tiers, 0, s.tiers, 0, 12);
            System.arraycopy(since, 0, s.since, 0, 12);
            System.arraycopy(homes, 0, s.homes, 0, 12);
            System.arraycopy(shares, 0, s.shares, 0, 4);
            for (Purchase p : purchases) {
                s.purchases.add(p.copy());
            }
            s.log.addAll(log);
            System.arraycopy(redeemed, 0, s.redeemed, 0, 10);
            System.arraycopy(totals, 0, s.totals, 0, 5);
            return s;
        }
    }

    private String text = "";
    private Rules rules = new Rules().finished();
    private State now = new State();
    private State saved = null;
    private List<State> past = new ArrayList<>();

    // ---- Input

    public int append(int a, int b, int c, int d, int e) {
        StringBuilder longer = new StringBuilder(text);
        for (int word : new int[] {a, b, c, d, e}) {
            for (int one : new int[] {word >>> 24, word >>> 16 & 255, word >>> 8 & 255, word & 255}) {
                if (one != 0) {
                    longer.append((char) one);
                }
            }
        }
        if (longer.length() > 600) {
            throw new IllegalStateException();
        }
        text = longer.toString();
        return text.length();
    }

    public int truncate(int length) {
        need(length >= 0 && length <= text.length());
        text = text.substring(0, length);
        return length;
    }

    public int errorPosition() {
        return new Parser(text).parse().error;
    }

    public int load() {
        Rules read = new Parser(text).parse();
        need(read.error == NONE);
        rules = read;
        now = new State();
        for (int i = 0; i < rules.houses.size(); i++) {
            now.shares[i] = rules.houses.get(i).share;
        }
        past.clear();
        saved = null;
        text = "";
        return rules.members.size();
    }

    public int find() {
        return orElseNone(rules.members.indexOf(text));
    }

    // ---- Changes

    public int purchase(int member, int category, int cents) {
        known(member, rules.members.size());
        known(category, rules.categories.size());
        need(cents >= 1 && cents <= 100000);
        change();
        Purchase p = priced(member, category, cents);
        now.purchases.add(p);
        now.totals[0] += p.points;
        int pooled = 0;
        if (now.homes[member] != NONE) {
            pooled = p.points * now.shares[now.homes[member]] / 100;
            now.pools.get(now.homes[member]).put(now.day + rules.life, member, pooled);
        }
        credit(member, now.day + rules.life, p.points - pooled);
        log(0, member, p.points);
        check(member);
        return p.points;
    }

    private Purchase priced(int member, int category, int cents) {
        Category c = rules.categories.get(category);
        Purchase p = new Purchase();
        p.member = member;
        p.category = category;
        p.cents = cents;
        p.base = cents * c.rate / 100;
        if (c.cap != 0 && p.base > c.cap) {
            p.base = c.cap;
        }
        int bonus = rules.tiers.get(now.tiers[member]).bonus;
        p.points = p.base * (100 + bonus + extras(category, now.day)) / 100;
        p.day = now.day;
        return p;
    }

    private int credit(int member, int day, int points) {
        int settled = Math.min(now.debts[member], points);
        now.debts[member] -= settled;
        now.totals[4] += settled;
        now.accounts.get(member).put(day, 0, points - settled);
        return settled;
    }

    private int sumAt(int member, int day) {
        int sum = 0;
        for (Purchase p : now.purchases) {
            if (p.member == member && !p.refunded && p.day >= day - rules.window + 1 && p.day <= day) {
                sum += p.base;
            }
        }
        return sum;
    }

    private int earnedAt(int member, int day) {
        int tier = 0;
        while (tier + 1 < rules.tiers.size()
                && rules.tiers.get(tier + 1).threshold <= sumAt(member, day)) {
            tier++;
        }
        return tier;
    }

    private void check(int member) {
        int before = now.tiers[member];
        int earned = earnedAt(member, now.day);
        if (earned >= before) {
            now.tiers[member] = earned;
            now.since[member] = NONE;
        } else {
            if (now.since[member] == NONE) {
                now.since[member] = now.day;
            }
            if (now.day - now.since[member] >= rules.grace) {
                now.tiers[member] = earned;
                now.since[member] = NONE;
            }
        }
        if (now.tiers[member] != before) {
            log(6, member, now.tiers[member]);
        }
    }

    public int refund(int purchase) {
        kept(purchase);
        if (now.purchases.get(purchase).refunded) {
            throw new IllegalStateException();
        }
        change();
        Purchase p = now.purchases.get(purchase);
        int day = p.day + rules.life;
        int left = p.points;
        Cohorts account = now.accounts.get(p.member);
        Cohorts pool = now.homes[p.member] == NONE ? new Cohorts() : now.pools.get(now.homes[p.member]);
        left -= Cohorts.sum(account.take(left, key -> key / 16 == day));
        left -= Cohorts.sum(pool.take(left, key -> key == day * 16 + p.member));
        left -= Cohorts.sum(account.take(left, key -> true));
        left -= Cohorts.sum(pool.take(left, key -> key % 16 == p.member));
        now.totals[3] += p.points - left;
        now.debts[p.member] += left;
        p.refunded = true;
        log(1, p.member, p.points - left);
        check(p.member);
        return left;
    }

    public int redeem(int member, int points) {
        known(member, rules.members.size());
        need(points >= 1);
        if (available(member) < points) {
            throw new IllegalStateException();
        }
        change();
        List<int[]> taken = now.accounts.get(member).take(points, key -> true);
        int pooled = points - Cohorts.sum(taken);
        if (pooled > 0) {
            taken.addAll(now.pools.get(now.homes[member]).take(pooled, key -> true));
        }
        for (int[] t : taken) {
            now.redeemed[part(t[0] / 16)] += t[1];
        }
        now.totals[1] += points;
        log(2, member, points);
        return pooled;
    }

    private int part(int expiry) {
        return Math.min(9, (now.day - (expiry - rules.life)) * 10 / rules.life);
    }

    public int transfer(int member, int other, int points) {
        known(member, rules.members.size());
        known(other, rules.members.size());
        need(member != other && points >= 1);
        if (now.accounts.get(member).points() < points) {
            throw new IllegalStateException();
        }
        change();
        int settled = 0;
        for (int[] t : now.accounts.get(member).take(points, key -> true)) {
            settled += credit(other, t[0] / 16, t[1]);
        }
        log(3, member, points);
        return settled;
    }

    public int join(int member, int household) {
        known(member, rules.members.size());
        known(household, rules.houses.size());
        if (now.homes[member] != NONE || Integer.bitCount(members(household)) == 4) {
            throw new IllegalStateException();
        }
        change();
        now.homes[member] = household;
        return Integer.bitCount(members(household));
    }

    public int leave(int member) {
        known(member, rules.members.size());
        if (now.homes[member] == NONE) {
            throw new IllegalStateException();
        }
        change();
        List<int[]> taken = now.pools.get(now.homes[member])
                .take(Integer.MAX_VALUE, key -> key % 16 == member);
        for (int[] t : taken) {
            credit(member, t[0] / 16, t[1]);
        }
        now.homes[member] = NONE;
        return Cohorts.sum(taken);
    }

    public int setShare(int household, int percent) {
        known(household, rules.houses.size());
        need(percent >= 0 && percent <= 100);
        change();
        int before = now.shares[household];
        now.shares[household] = percent;
        return before;
    }

    public int advance(int days) {
        need(days >= 1 && days <= 400 && now.day + days <= 9999);
        change();
        int expired = 0;
        for (int i = 0; i < days; i++) {
            now.day++;
            for (int m = 0; m < 12; m++) {
                expired += expire(now.accounts.get(m), 4, m);
            }
            for (int h = 0; h < 4; h++) {
                expired += expire(now.pools.get(h), 5, h);
            }
            for (int m = 0; m < rules.members.size(); m++) {
                check(m);
            }
        }
        return expired;
    }

    private int expire(Cohorts list, int kind, int subject) {
        int lost = Cohorts.sum(list.take(Integer.MAX_VALUE, key -> key / 16 <= now.day));
        now.totals[2] += lost;
        if (lost > 0) {
            log(kind, subject, lost);
        }
        return lost;
    }

    private void log(int kind, int subject, int number) {
        now.log.add(0, new int[] {kind, now.day, subject, number});
        if (now.log.size() > 30) {
            now.log.remove(30);
        }
    }

    // ---- Setup

    public int setup(int what) {
        need(what >= 0 && what <= 7);
        return new int[] {rules.tiers.size(), rules.categories.size(), rules.promos.size(),
            rules.members.size(), rules.houses.size(), rules.life, rules.window, rules.grace}[what];
    }

    public int threshold(int tier) {
        known(tier, rules.tiers.size());
        return rules.tiers.get(tier).threshold;
    }

    public int extras(int category, int day) {
        known(category, rules.categories.size());
        need(day >= 0 && day <= 9999);
        return rules.promos.stream()
                .filter(p -> p.category == category && p.from <= day && day <= p.to)
                .mapToInt(Promo::extra).sum();
    }

    // ---- State

    public int today() {
        return now.day;
    }

    public int balance(int member) {
        known(member, rules.members.size());
        return now.accounts.get(member).points();
    }

    public int debt(int member) {
        known(member, rules.members.size());
        return now.debts[member];
    }

    private Cohorts poolOf(int member) {
        return now.homes[member] == NONE ? new Cohorts() : now.pools.get(now.homes[member]);
    }

    public int available(int member) {
        return balance(member) + poolOf(member).points();
    }

    public int cohortCount(int member) {
        known(member, rules.members.size());
        return now.accounts.get(member).size();
    }

    public int cohort(int member, int index, int what) {
        known(member, rules.members.size());
        known(index, now.accounts.get(member).size());
        need(what >= 0 && what <= 1);
        return cohortPart(now.accounts.get(member), index, what);
    }

    private static int cohortPart(Cohorts list, int index, int what) {
        int key = new ArrayList<>(list.keySet()).get(index);
        return new int[] {list.get(key), key / 16, key % 16}[what];
    }

    public int household(int member) {
        known(member, rules.members.size());
        return now.homes[member];
    }

    public int members(int household) {
        known(household, rules.houses.size());
        int bits = 0;
        for (int m = 0; m < 12; m++) {
            bits |= now.homes[m] == household ? 1 << m : 0;
        }
        return bits;
    }

    public int poolBalance(int household) {
        known(household, rules.houses.size());
        return now.pools.get(household).points();
    }

    public int poolCohortCount(int household) {
        known(household, rules.houses.size());
        return now.pools.get(household).size();
    }

    public int poolCohort(int household, int index, int what) {
        known(household, rules.houses.size());
        known(index, now.pools.get(household).size());
        need(what >= 0 && what <= 2);
        return cohortPart(now.pools.get(household), index, what);
    }

    public int contributed(int member) {
        known(member, rules.members.size());
        return poolOf(member).pointsOf(member);
    }

    public int total(int what) {
        need(what >= 0 && what <= 6);
        if (what < 5) {
            return now.totals[what];
        }
        int sum = 0;
        for (Cohorts list : everyList()) {
            sum += list.points();
        }
        int debts = 0;
        for (int debt : now.debts) {
            debts += debt;
        }
        return what == 5 ? sum : debts;
    }

    private List<Cohorts> everyList() {
        List<Cohorts> lists = new ArrayList<>(now.accounts);
        lists.addAll(now.pools);
        return lists;
    }

    // ---- Tiers

    public int tier(int member) {
        known(member, rules.members.size());
        return now.tiers[member];
    }

    public int earnedTier(int member) {
        known(member, rules.members.size());
        return earnedAt(member, now.day);
    }

    public int qualifying(int member) {
        known(member, rules.members.size());
        return sumAt(member, now.day);
    }

    public int belowSince(int member) {
        known(member, rules.members.size());
        return now.since[member];
    }

    public int toNextTier(int member) {
        int next = earnedTier(member) + 1;
        if (next == rules.tiers.size()) {
            throw new NoSuchElementException();
        }
        return rules.tiers.get(next).threshold - qualifying(member);
    }

    public int tierAfter(int member, int days) {
        known(member, rules.members.size());
        need(days >= 0 && days <= 2000);
        State before = now;
        now = now.copy();
        for (int i = 0; i < days; i++) {
            now.day++;
            check(member);
        }
        int tier = now.tiers[member];
        now = before;
        return tier;
    }

    // ---- Earning

    public int wouldEarn(int member, int category, int cents) {
        known(member, rules.members.size());
        known(category, rules.categories.size());
        need(cents >= 1 && cents <= 100000);
        return priced(member, category, cents).points;
    }

    public int bestCategory(int member, int cents) {
        known(member, rules.members.size());
        need(cents >= 1 && cents <= 100000);
        int best = NONE;
        for (int c = rules.categories.size() - 1; c >= 0; c--) {
            if (best == NONE || wouldEarn(member, c, cents) >= wouldEarn(member, best, cents)) {
                best = c;
            }
        }
        return orElseNone(best);
    }

    public int leastCents(int member, int category, int points) {
        known(member, rules.members.size());
        known(category, rules.categories.size());
        need(points >= 1);
        for (int cents = 1; cents <= 100000; cents++) {
            if (priced(member, category, cents).points >= points) {
                return cents;
            }
        }
        throw new NoSuchElementException();
    }

    public int purchaseCount() {
        return now.purchases.size();
    }

    public int purchasePart(int purchase, int what) {
        kept(purchase);
        need(what >= 0 && what <= 6);
        Purchase p = now.purchases.get(purchase);
        return new int[] {p.member, p.category, p.cents, p.base, p.points, p.day,
            p.refunded ? 1 : 0}[what];
    }

    // ---- Expiry and breakage

    public int expiringWithin(int member, int days) {
        known(member, rules.members.size());
        need(days >= 0 && days <= 2000);
        int sum = 0;
        for (var cohort : now.accounts.get(member).entrySet()) {
            sum += cohort.getKey() / 16 <= now.day + days ? cohort.getValue() : 0;
        }
        return sum;
    }

    public int nextExpiry(int member) {
        known(member, rules.members.size());
        List<Integer> keys = new ArrayList<>(now.accounts.get(member).keySet());
        keys.addAll(poolOf(member).keySet());
        if (keys.isEmpty()) {
            throw new NoSuchElementException();
        }
        return keys.stream().mapToInt(key -> key / 16).min().getAsInt();
    }

    public int redeemedWith(int part) {
        need(part >= 0 && part <= 9);
        return now.redeemed[part];
    }

    public int breakage(int member) {
        known(member, rules.members.size());
        return breakageOf(now.accounts.get(member));
    }

    public int poolBreakage(int household) {
        known(household, rules.houses.size());
        return breakageOf(now.pools.get(household));
    }

    public int totalBreakage() {
        return everyList().stream().mapToInt(this::breakageOf).sum();
    }

    private int breakageOf(Cohorts list) {
        int sum = 0;
        for (var cohort : list.entrySet()) {
            long e = now.totals[2];
            long r = 0;
            for (int k = part(cohort.getKey() / 16); k <= 9; k++) {
                r += now.redeemed[k];
            }
            sum += e + r == 0 ? 0 : (int) (cohort.getValue() * e / (e + r));
        }
        return sum;
    }

    // ---- Order and log

    public int rankedMember(int index) {
        known(index, rules.members.size());
        List<Integer> order = new ArrayList<>();
        for (int m = 0; m < rules.members.size(); m++) {
            order.add(m);
        }
        order.sort((a, b) -> {
            if (now.tiers[a] != now.tiers[b]) {
                return now.tiers[b] - now.tiers[a];
            }
            if (balance(a) != balance(b)) {
                return balance(b) - balance(a);
            }
            return rules.members.get(a).compareTo(rules.members.get(b));
        });
        return order.get(index);
    }

    public int logSize() {
        return now.log.size();
    }

    public int log(int index, int what) {
        known(index, now.log.size());
        need(what >= 0 && what <= 3);
        return now.log.get(index)[what];
    }

    // ---- History

    private void change() {
        past.add(now.copy());
        if (past.size() > 8) {
            past.remove(0);
        }
    }

    public int undo() {
        if (past.isEmpty()) {
            throw new IllegalStateException();
        }
        now = past.remove(past.size() - 1);
        return past.size();
    }

    public int undoCount() {
        return past.size();
    }

    public int save() {
        saved = now.copy();
        return now.day;
    }

    public int restore() {
        if (saved == null) {
            throw new IllegalStateException();
        }
        now = saved.copy();
        past.clear();
        return now.day;
    }

    private static void known(int number, int count) {
        if (number < 0 || number >= count) {
            throw new IndexOutOfBoundsException();
        }
    }

    private static void need(boolean allowed) {
        if (!allowed) {
            throw new IllegalArgumentException();
        }
    }

    private static int orElseNone(int found) {
        if (found == NONE) {
            throw new NoSuchElementException();
        }
        return found;
    }

    private void kept(int purchase) {
        int count = now.purchases.size();
        if (purchase < 0 || purchase >= count || purchase < count - 40) {
            throw new NoSuchElementException();
        }
    }
}
