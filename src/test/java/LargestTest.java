import java.util.ArrayList;
import java.util.List;
import java.util.Random;

/**
 * Drawn towns of the greatest sizes that the document lets, which Model leaves out as too much: each answer is
 * sought by trying all there is, in a way that is quick enough for that question.
 */
public final class LargestTest {
    private static final int TOWNS = 60;
    private static final int LONG_TOURS = 6;

    private final Random random;
    private final PaidWhereMade x = new PaidWhereMade();
    private final int[][] ways = new int[10][10];

    private LargestTest(int seed) {
        random = new Random(seed);
        for (int i = 0; i < 10; i++) {
            x.spot(random.nextInt(100));
        }
        for (int i = 0; i < 10; i++) {
            x.person(random.nextInt(10), random.nextInt(100000), random.nextInt(100));
        }
    }

    public static void main(String[] args) {
        for (int seed = 0; seed < TOWNS; seed++) {
            new LargestTest(seed).clearedOfMany();
            new LargestTest(seed).firstOfEight();
            new LargestTest(seed).waitingOnTenSpots();
            new LargestTest(seed).wrongOfThirty();
        }
        for (int seed = 0; seed < LONG_TOURS; seed++) {
            new LargestTest(seed).tourOfMany();
        }
        Due.finish();
    }

    private int between(int least, int most) {
        return least + random.nextInt(most - least + 1);
    }

    // cleared: every way to part the debts into sets is tried

    private final int[][] debts = new int[10][3];
    private List<Integer> bestSets;

    private void clearedOfMany() {
        int count = between(9, 10);
        int people = between(3, 10);
        int spots = between(2, 10);
        for (int k = 0; k < count; k++) {
            int debtor = random.nextInt(people);
            int creditor = (debtor + between(1, people - 1)) % people;
            debts[k] = new int[] {debtor, creditor, random.nextInt(spots)};
            x.debt(debtor, creditor, between(1, 9999), debts[k][2]);
        }
        bestSets = null;
        part(count - 1, new ArrayList<>());
        Due.is("cleared(0) of " + count, x.cleared(0), bestSets.size());
        for (int k = 0; k < bestSets.size(); k++) {
            Due.is("cleared(" + (10 + k) + ") of " + count, x.cleared(10 + k), bestSets.get(k));
        }
        Due.is("cleared behind the last", x.cleared(10 + bestSets.size()), -1);
    }

    /** The greatest debt is put first, so sets come in falling order by themselves. */
    private void part(int k, List<Integer> sets) {
        if (bestSets != null && sets.size() > bestSets.size()) {
            return;
        }
        if (k < 0) {
            if (bestSets == null || sets.size() < bestSets.size() || isGreater(sets, bestSets)) {
                bestSets = new ArrayList<>(sets);
            }
            return;
        }
        for (int i = 0; i < sets.size(); i++) {
            int set = sets.get(i);
            if (goesWith(k, set)) {
                sets.set(i, set | 1 << k);
                part(k - 1, sets);
                sets.set(i, set);
            }
        }
        sets.add(1 << k);
        part(k - 1, sets);
        sets.remove(sets.size() - 1);
    }

    private static boolean isGreater(List<Integer> a, List<Integer> b) {
        for (int i = 0; i < a.size(); i++) {
            if (!a.get(i).equals(b.get(i))) {
                return a.get(i) > b.get(i);
            }
        }
        return false;
    }

    private boolean goesWith(int k, int set) {
        for (int j = 0; j < 10; j++) {
            boolean isShared = debts[j][0] == debts[k][0] || debts[j][0] == debts[k][1] || debts[j][1] == debts[k][0]
                || debts[j][1] == debts[k][1];
            if ((set >> j & 1) == 1 && isShared && debts[j][2] != debts[k][2]) {
                return false;
            }
        }
        return true;
    }

    // first: all 40320 orders

    private void firstOfEight() {
        int rate = between(0, 3) == 0 ? 99 : random.nextInt(100);
        int most = between(0, 1) == 0 ? 20 : 9999;
        x.set(1, rate);
        long[] coins = new long[8];
        for (int i = 0; i < 8; i++) {
            coins[i] = between(1, most);
            x.debt(3, 4, (int) coins[i], random.nextInt(10));
        }
        if (most == 9999 && rate > 0) {
            x.set(3, 1);
            x.pass(between(1, 6));
        }
        for (int i = 0; i < 8; i++) {
            if (x.owed(i, 6) != 0) {
                return;
            }
            coins[i] = x.owed(i, 2);
        }
        long least = Long.MAX_VALUE;
        int[] best = null;
        for (int[] order : Model.ordersOf(8)) {
            long sum = sumInOrder(coins, order, rate);
            if (sum < least) {
                least = sum;
                best = order;
            }
        }
        Due.is("first(3, 0) of eight", x.first(3, 0), least);
        for (int i = 0; i < 8; i++) {
            Due.is("first(3, " + (10 + i) + ") of eight", x.first(3, 10 + i), best[i]);
        }
    }

    private static long sumInOrder(long[] coins, int[] order, int rate) {
        long sum = 0;
        for (int i = 0; i < order.length; i++) {
            long grown = coins[order[i]];
            for (int k = 0; k < i; k++) {
                grown += grown * rate / 100;
            }
            sum += grown;
        }
        return sum;
    }

    // tour: all orders of eight or nine stops

    private void tellWays(int least, int most) {
        for (int a = 0; a < 10; a++) {
            for (int b = a + 1; b < 10; b++) {
                ways[a][b] = between(least, most);
                ways[b][a] = ways[a][b];
                x.way(a, b, ways[a][b]);
            }
        }
    }

    private void tourOfMany() {
        tellWays(0, 99);
        int from = random.nextInt(10);
        int without = random.nextInt(10);
        long all = fewestMiles(from, 0, 1023 & ~(1 << from), from);
        Due.is("tour over ten", x.tour(from, 1023), all);
        Due.is("tour over nine others", x.tour(from, 1023 & ~(1 << from)), all);
        long fewer = fewestMiles(from, 0, 1023 & ~(1 << from) & ~(1 << without), from);
        Due.is("tour without one", x.tour(from, 1023 & ~(1 << without)), fewer);
    }

    private long fewestMiles(int at, long gone, int left, int from) {
        if (left == 0) {
            return gone + ways[at][from];
        }
        long least = Long.MAX_VALUE;
        for (int to = 0; to < 10; to++) {
            if ((left >> to & 1) == 1) {
                least = Math.min(least, fewestMiles(to, gone + ways[at][to], left & ~(1 << to), from));
            }
        }
        return least;
    }

    // waiting: all ways, on spots so far apart that they can be tried

    private final int[][] chances = new int[10][8];
    private long leastMissed;
    private int[] leastWay;

    private void waitingOnTenSpots() {
        tellWays(between(0, 2) == 0 ? 11 : 9, between(0, 1) == 0 ? 25 : 99);
        boolean isCoarse = random.nextBoolean();
        for (int hour = 0; hour < 8; hour++) {
            for (int n = 0; n < 6; n++) {
                int spot = random.nextInt(10);
                int v = isCoarse ? 50 * random.nextInt(3) : random.nextInt(60);
                if (x.chance(spot, hour, v)) {
                    chances[spot][hour] = v;
                }
            }
        }
        int from = random.nextInt(10);
        int hours = between(6, 8);
        leastMissed = Long.MAX_VALUE;
        leastWay = null;
        goOn(from, 0, 1, new int[hours]);
        Due.is("waiting on ten spots", x.waiting(from, hours, 0), leastMissed);
        for (int h = 0; h < hours; h++) {
            Due.is("waiting on ten spots, hour " + h, x.waiting(from, hours, 10 + h), leastWay[h]);
        }
    }

    private void goOn(int at, int hour, long missed, int[] way) {
        if (hour == way.length) {
            boolean isLess = missed < leastMissed;
            if (isLess || missed == leastMissed && java.util.Arrays.compare(way, leastWay) < 0) {
                leastMissed = missed;
                leastWay = way.clone();
            }
            return;
        }
        way[hour] = at;
        goOn(at, hour + 1, missed * (100 - chances[at][hour]), way);
        for (int to = 0; to < 10; to++) {
            int takes = Math.max(1, (ways[at][to] + 9) / 10);
            if (to != at && hour + takes <= way.length) {
                long then = missed;
                for (int h = hour; h < hour + takes; h++) {
                    way[h] = 10;
                    then *= 100;
                }
                goOn(to, hour + takes, then, way);
            }
        }
    }

    // wrong: every spot for each of five

    private void wrongOfThirty() {
        int[] who = {between(0, 1), between(2, 3), between(4, 5), between(6, 7), between(8, 9)};
        int spots = between(2, 10);
        int[][] lines = new int[30][];
        for (int i = 0; i < 30; i++) {
            int a = random.nextInt(5);
            int b = (a + between(1, 4)) % 5;
            lines[i] = between(0, 2) == 0 ? new int[] {a, b, -1} : new int[] {a, -1, random.nextInt(spots)};
            x.line(9999, who[a], lines[i][1] < 0 ? -1 : who[b], lines[i][2]);
        }
        int least = 30;
        int[] at = new int[5];
        for (int n = 0; n < 100000; n++) {
            int rest = n;
            for (int i = 0; i < 5; i++) {
                at[i] = rest % 10;
                rest /= 10;
            }
            int wrong = 0;
            for (int[] l : lines) {
                wrong += l[1] < 0 ? (at[l[0]] == l[2] ? 0 : 1) : at[l[0]] == at[l[1]] ? 0 : 1;
            }
            least = Math.min(least, wrong);
        }
        Due.is("wrong of thirty lines", x.wrong(9999), least);
    }
}
