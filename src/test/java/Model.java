import java.util.ArrayList;
import java.util.Arrays;
import java.util.HashSet;
import java.util.List;
import java.util.Set;

/** The document a second time, in the plainest way: every search tries all there is. Answers as longs. */
final class Model {
    /** An answer that would take too long to find by trying all. */
    static final long TOO_MUCH = Long.MIN_VALUE;

    static final class Person {
        int home;
        int coin;
        int age;
        int goal;
        int stood = -1;
    }

    static final class Debt {
        int number;
        int debtor;
        int creditor;
        int coins;
        int spot;
        int made;
        int paidOn = -1;
        int how;
    }

    int state;
    int sunday;
    int miles;
    boolean fogged;
    int[] settings = {0, 0, 0, 4};
    List<Integer> prices = new ArrayList<>();
    int[][] ways = new int[10][10];
    int[][] chances = new int[10][8];
    List<Person> people = new ArrayList<>();
    List<Debt> debts = new ArrayList<>();
    List<int[]> lines = new ArrayList<>();
    ModelLaw law = new ModelLaw(new int[0]);
    Model kept;

    Model() {
        for (int[] row : ways) {
            Arrays.fill(row, 9);
        }
        for (int i = 0; i < 10; i++) {
            ways[i][i] = 0;
        }
    }

    void copyFrom(Model o) {
        state = o.state;
        sunday = o.sunday;
        miles = o.miles;
        fogged = o.fogged;
        settings = o.settings.clone();
        prices = new ArrayList<>(o.prices);
        for (int i = 0; i < 10; i++) {
            ways[i] = o.ways[i].clone();
            chances[i] = o.chances[i].clone();
        }
        people = new ArrayList<>();
        for (Person p : o.people) {
            Person q = new Person();
            q.home = p.home;
            q.coin = p.coin;
            q.age = p.age;
            q.goal = p.goal;
            q.stood = p.stood;
            people.add(q);
        }
        debts = new ArrayList<>();
        for (Debt d : o.debts) {
            Debt e = new Debt();
            e.number = d.number;
            e.debtor = d.debtor;
            e.creditor = d.creditor;
            e.coins = d.coins;
            e.spot = d.spot;
            e.made = d.made;
            e.paidOn = d.paidOn;
            e.how = d.how;
            debts.add(e);
        }
        lines = new ArrayList<>(o.lines);
        law = o.law;
    }

    boolean isSpot(int s) {
        return 0 <= s && s < prices.size();
    }

    boolean isPerson(int p) {
        return 0 <= p && p < people.size();
    }

    static boolean in(int v, int least, int most) {
        return least <= v && v <= most;
    }

    long spot(int price) {
        if (!in(price, 0, 99) || prices.size() == 10) {
            return -1;
        }
        prices.add(price);
        return prices.size() - 1;
    }

    long way(int a, int b, int m) {
        if (!isSpot(a) || !isSpot(b) || a == b || !in(m, 0, 99)) {
            return 0;
        }
        ways[a][b] = m;
        ways[b][a] = m;
        return 1;
    }

    long person(int home, int coin, int age) {
        if (!isSpot(home) || !in(coin, 0, 99999) || !in(age, 0, 99) || people.size() == 10) {
            return -1;
        }
        Person p = new Person();
        p.home = home;
        p.goal = home;
        p.coin = coin;
        p.age = age;
        people.add(p);
        return people.size() - 1;
    }

    long debt(int debtor, int creditor, int coins, int spot) {
        if (!isPerson(debtor) || !isPerson(creditor) || debtor == creditor || !in(coins, 1, 9999) || !isSpot(spot)
            || debts.size() == 30) {
            return -1;
        }
        Debt d = new Debt();
        d.number = debts.size();
        d.debtor = debtor;
        d.creditor = creditor;
        d.coins = coins;
        d.spot = spot;
        d.made = sunday;
        debts.add(d);
        return d.number;
    }

    long set(int what, int v) {
        int[] most = {100, 99, 1, 52};
        if (!in(what, 0, 3) || !in(v, what == 3 ? 1 : 0, most[what])) {
            return 0;
        }
        settings[what] = v;
        return 1;
    }

    long goal(int p, int spot) {
        if (!isPerson(p) || !isSpot(spot)) {
            return 0;
        }
        people.get(p).goal = spot;
        return 1;
    }

    long text(int[] bytes) {
        ModelLaw read = new ModelLaw(bytes);
        latest = read;
        if (read.fault != 0) {
            return -1;
        }
        law = read;
        return read.lines();
    }

    ModelLaw latest = new ModelLaw(new int[0]);

    long fault(int what) {
        return what == 0 ? latest.fault : what == 1 ? latest.place : -1;
    }

    long goSunday() {
        if (sunday == 9999) {
            return -1;
        }
        fogged = false;
        if (settings[0] > 0) {
            state = state * 1664525 + 1013904223;
            long high = (state & 0xFFFFFFFFL) / 256;
            fogged = high % 100 < settings[0];
        }
        for (Person p : people) {
            p.stood = p.home;
            if (!fogged && p.goal != p.home && p.coin >= prices.get(p.goal)) {
                p.coin -= prices.get(p.goal);
                p.stood = p.goal;
                miles += ways[p.home][p.goal] + ways[p.goal][p.home];
            }
        }
        int paid = settings[2] == 1 ? cancel() : 0;
        for (Debt d : debts) {
            Person from = people.get(d.debtor);
            Person to = people.get(d.creditor);
            if (d.how == 0 && from.stood == d.spot && to.stood == d.spot && from.coin >= d.coins && lets(d)) {
                from.coin -= d.coins;
                to.coin += d.coins;
                d.how = 1;
                d.paidOn = sunday;
                paid++;
            }
        }
        sunday++;
        for (Debt d : debts) {
            if (d.how == 0 && (sunday - d.made) % settings[3] == 0) {
                d.coins = (int) Math.min(99999L, d.coins + (long) d.coins * settings[1] / 100);
            }
        }
        for (Person p : people) {
            p.goal = p.home;
        }
        return paid;
    }

    long pass(int n) {
        if (!in(n, 1, 400) || sunday + n > 9999) {
            return -1;
        }
        for (Person p : people) {
            p.goal = p.home;
        }
        long paid = 0;
        for (int i = 0; i < n; i++) {
            paid += goSunday();
        }
        return paid;
    }

    boolean lets(Debt d) {
        Person p = people.get(d.debtor);
        int here = (int) people.stream().filter(q -> q.stood == d.spot).count();
        return law.lets(new int[] {d.coins, sunday - d.made, p.coin, d.spot, p.age, here, d.debtor, d.creditor, sunday});
    }

    private int cancel() {
        int paid = 0;
        for (int s = 0; s < prices.size(); s++) {
            while (true) {
                List<Debt> there = new ArrayList<>();
                for (Debt d : debts) {
                    if (d.how == 0 && d.spot == s && people.get(d.debtor).stood == s
                        && people.get(d.creditor).stood == s) {
                        there.add(d);
                    }
                }
                best = null;
                for (Debt d : there) {
                    List<Debt> row = new ArrayList<>();
                    row.add(d);
                    tryRounds(there, row);
                }
                if (best == null) {
                    break;
                }
                int least = best.stream().mapToInt(d -> d.coins).min().getAsInt();
                for (Debt d : best) {
                    d.coins -= least;
                    if (d.coins == 0) {
                        d.how = 2;
                        d.paidOn = sunday;
                        paid++;
                    }
                }
            }
        }
        return paid;
    }

    private List<Debt> best;

    private void tryRounds(List<Debt> there, List<Debt> row) {
        Debt begin = row.get(0);
        Debt last = row.get(row.size() - 1);
        if (last.creditor == begin.debtor) {
            if (best == null || row.size() < best.size() || row.size() == best.size() && comesFirst(row, best)) {
                best = new ArrayList<>(row);
            }
            return;
        }
        for (Debt d : there) {
            if (d.number > begin.number && d.debtor == last.creditor
                && row.stream().noneMatch(e -> e.debtor == d.debtor)) {
                row.add(d);
                tryRounds(there, row);
                row.remove(row.size() - 1);
            }
        }
    }

    private static boolean comesFirst(List<Debt> a, List<Debt> b) {
        for (int i = 0; i < a.size(); i++) {
            if (a.get(i).number != b.get(i).number) {
                return a.get(i).number < b.get(i).number;
            }
        }
        return false;
    }

    long of(int p, int what) {
        if (!isPerson(p) || !in(what, 0, 6)) {
            return -2;
        }
        Person q = people.get(p);
        int owing = debts.stream().filter(d -> d.how == 0 && d.debtor == p).mapToInt(d -> d.coins).sum();
        int due = debts.stream().filter(d -> d.how == 0 && d.creditor == p).mapToInt(d -> d.coins).sum();
        return new int[] {q.home, q.coin, q.age, q.goal, q.stood, owing, due}[what];
    }

    long owed(int debt, int what) {
        if (!in(debt, 0, debts.size() - 1) || !in(what, 0, 7)) {
            return -2;
        }
        Debt d = debts.get(debt);
        int may = d.how == 0 && lets(d) ? 1 : 0;
        return new int[] {d.debtor, d.creditor, d.coins, d.spot, d.made, d.paidOn, d.how, may}[what];
    }

    private List<Debt> open() {
        List<Debt> open = new ArrayList<>(debts);
        open.removeIf(d -> d.how != 0);
        return open;
    }

    long cleared(int what) {
        List<Debt> open = open();
        if (open.size() > 10) {
            return -1;
        }
        if (open.size() > 8) {
            return TOO_MUCH;
        }
        for (int n = 0; n <= open.size(); n++) {
            List<Integer> row = new ArrayList<>();
            if (clear(open, (1 << open.size()) - 1, n, row)) {
                return what == 0 ? n : what >= 10 && what < 10 + n ? row.get(what - 10) : -1;
            }
        }
        throw new IllegalStateException("one debt a Sunday always does");
    }

    private boolean clear(List<Debt> open, int left, int sundays, List<Integer> row) {
        if (sundays == 0) {
            return left == 0;
        }
        for (int set = left; set >= 0; set--) {
            if ((set & ~left) == 0 && canBeOneSunday(open, set)) {
                row.add(set);
                if (clear(open, left & ~set, sundays - 1, row)) {
                    return true;
                }
                row.remove(row.size() - 1);
            }
        }
        return false;
    }

    private boolean canBeOneSunday(List<Debt> open, int set) {
        int[] at = new int[10];
        Arrays.fill(at, -1);
        for (int k = 0; k < open.size(); k++) {
            if ((set >> k & 1) == 1) {
                for (int p : new int[] {open.get(k).debtor, open.get(k).creditor}) {
                    if (at[p] >= 0 && at[p] != open.get(k).spot) {
                        return false;
                    }
                    at[p] = open.get(k).spot;
                }
            }
        }
        return true;
    }

    static List<int[]> orders(int n) {
        List<int[]> all = new ArrayList<>();
        order(new int[n], 0, 0, all);
        return all;
    }

    private static void order(int[] row, int at, int used, List<int[]> all) {
        if (at == row.length) {
            all.add(row.clone());
        }
        for (int i = 0; i < row.length; i++) {
            if ((used >> i & 1) == 0 && at < row.length) {
                row[at] = i;
                order(row, at + 1, used | 1 << i, all);
            }
        }
    }

    private static final List<List<int[]>> ORDERS = new ArrayList<>();

    static List<int[]> ordersOf(int n) {
        while (ORDERS.size() <= n) {
            ORDERS.add(orders(ORDERS.size()));
        }
        return ORDERS.get(n);
    }

    long first(int p, int what) {
        List<Debt> own = open();
        own.removeIf(d -> d.debtor != p);
        if (!isPerson(p) || own.size() > 8) {
            return -1;
        }
        if (own.size() > 7) {
            return TOO_MUCH;
        }
        long least = Long.MAX_VALUE;
        int[] row = null;
        for (int[] order : ordersOf(own.size())) {
            long sum = 0;
            for (int i = 0; i < order.length; i++) {
                long c = own.get(order[i]).coins;
                for (int k = 0; k < i; k++) {
                    c += c * settings[1] / 100;
                }
                sum += c;
            }
            if (sum < least) {
                least = sum;
                row = order;
            }
        }
        return what == 0 ? least : what >= 10 && what < 10 + own.size() ? own.get(row[what - 10]).number : -1;
    }

    long tour(int from, int set) {
        if (!isSpot(from) || set < 0 || set >= 1 << prices.size()) {
            return -1;
        }
        List<Integer> stops = new ArrayList<>();
        for (int s = 0; s < prices.size(); s++) {
            if ((set >> s & 1) == 1 && s != from) {
                stops.add(s);
            }
        }
        if (stops.size() > 7) {
            return TOO_MUCH;
        }
        long least = Long.MAX_VALUE;
        for (int[] order : ordersOf(stops.size())) {
            long sum = 0;
            int at = from;
            for (int i : order) {
                sum += ways[at][stops.get(i)];
                at = stops.get(i);
            }
            least = Math.min(least, sum + ways[at][from]);
        }
        return least;
    }

    long share(int from, int set, int p, int what) {
        if (!isSpot(from) || set < 0 || set >= 1 << people.size() || !isPerson(p) || (set >> p & 1) == 0
            || Integer.bitCount(set) > 6 || !in(what, 0, 1)) {
            return -1;
        }
        List<Integer> riders = new ArrayList<>();
        for (int q = 0; q < people.size(); q++) {
            if ((set >> q & 1) == 1) {
                riders.add(q);
            }
        }
        long[] costs = new long[1 << 10];
        Arrays.fill(costs, -1);
        long sum = 0;
        for (int[] order : ordersOf(riders.size())) {
            int spots = 0;
            for (int i : order) {
                int with = spots | 1 << people.get(riders.get(i)).home;
                if (riders.get(i) == p) {
                    sum += cost(costs, from, with) - cost(costs, from, spots);
                }
                spots = with;
            }
        }
        java.math.BigInteger above = java.math.BigInteger.valueOf(sum);
        java.math.BigInteger below = java.math.BigInteger.valueOf(ordersOf(riders.size()).size());
        java.math.BigInteger common = above.gcd(below);
        return (what == 0 ? above : below).divide(common).longValue();
    }

    private long cost(long[] costs, int from, int spots) {
        if (costs[spots] < 0) {
            costs[spots] = tour(from, spots);
        }
        return costs[spots];
    }

    long chance(int spot, int hour, int v) {
        if (!isSpot(spot) || !in(hour, 0, 7) || !in(v, 0, 100)) {
            return 0;
        }
        int before = chances[spot][hour];
        chances[spot][hour] = v;
        int sum = 0;
        for (int[] row : chances) {
            sum += row[hour];
        }
        if (sum > 100) {
            chances[spot][hour] = before;
            return 0;
        }
        return 1;
    }

    private long leastMissed;
    private int[] leastWay;

    long waiting(int from, int n, int what) {
        if (!isSpot(from) || !in(n, 1, 8) || what != 0 && !in(what, 10, 9 + n)) {
            return -1;
        }
        if (Math.pow(prices.size(), n) > 300000) {
            return TOO_MUCH;
        }
        leastMissed = Long.MAX_VALUE;
        walk(from, 0, n, 1, new int[n]);
        return what == 0 ? leastMissed : leastWay[what - 10];
    }

    private void walk(int at, int hour, int n, long missed, int[] way) {
        if (hour == n) {
            if (missed < leastMissed || missed == leastMissed && Arrays.compare(way, leastWay) < 0) {
                leastMissed = missed;
                leastWay = way.clone();
            }
            return;
        }
        way[hour] = at;
        walk(at, hour + 1, n, missed * (100 - chances[at][hour]), way);
        for (int to = 0; to < prices.size(); to++) {
            if (to != at) {
                int takes = Math.max(1, (int) Math.ceil(ways[at][to] / 10.0));
                long then = missed;
                int behind = hour;
                while (behind < n && behind < hour + takes) {
                    way[behind] = 10;
                    then *= 100;
                    behind++;
                }
                walk(to, behind, n, then, way);
            }
        }
    }

    long line(int day, int a, int b, int spot) {
        boolean was = b == -1 && isSpot(spot);
        boolean met = spot == -1 && isPerson(b) && a != b;
        if (!in(day, 0, 9999) || !isPerson(a) || !was && !met || lines.size() == 30) {
            return -1;
        }
        lines.add(new int[] {day, a, b, spot});
        return lines.size() - 1;
    }

    long wrong(int day) {
        if (!in(day, 0, 9999)) {
            return -1;
        }
        List<int[]> its = new ArrayList<>(lines);
        its.removeIf(l -> l[0] != day);
        Set<Integer> named = new HashSet<>();
        for (int[] l : its) {
            named.add(l[1]);
            if (l[2] >= 0) {
                named.add(l[2]);
            }
        }
        return named.size() > 5 ? -1 : place(its, new ArrayList<>(named), 0, new int[10]);
    }

    private int place(List<int[]> its, List<Integer> named, int i, int[] at) {
        if (i == named.size()) {
            return (int) its.stream().filter(l -> l[2] < 0 ? at[l[1]] != l[3] : at[l[1]] != at[l[2]]).count();
        }
        int least = its.size();
        for (int s = 0; s < prices.size(); s++) {
            at[named.get(i)] = s;
            least = Math.min(least, place(its, named, i + 1, at));
        }
        return least;
    }

    long image(boolean taken) {
        if (taken) {
            kept = new Model();
            kept.copyFrom(this);
        } else if (kept != null) {
            copyFrom(kept);
        }
        return kept == null ? 0 : 1;
    }

    long look(int what) {
        int open = open().size();
        int[] row = {prices.size(), people.size(), debts.size(), open, sunday, miles, state, lines.size(), law.lines(),
            fogged ? 1 : 0};
        return in(what, 0, 9) ? row[what] : in(what, 20, 23) ? settings[what - 20] : -1;
    }
}
