/** Promises 21 and 22: chance and waiting, by hand. */
public final class WaitsTest {
    public static void main(String[] args) {
        chances();
        standing();
        walking();
        metForSure();
        ties();
        Due.finish();
    }

    private static PaidWhereMade town(int spots) {
        PaidWhereMade x = new PaidWhereMade();
        for (int s = 0; s < spots; s++) {
            x.spot(0);
        }
        return x;
    }

    private static void chances() {
        PaidWhereMade x = town(2);
        Due.is("chance(2, ..)", x.chance(2, 0, 0), false);
        Due.is("chance(-1, ..)", x.chance(-1, 0, 0), false);
        Due.is("hour 8", x.chance(0, 8, 0), false);
        Due.is("hour -1", x.chance(0, -1, 0), false);
        Due.is("101", x.chance(0, 0, 101), false);
        Due.is("-1", x.chance(0, 0, -1), false);
        Due.is("100", x.chance(0, 7, 100), true);
        Due.is("one more", x.chance(1, 7, 1), false);
        Due.is("again", x.chance(0, 7, 60), true);
        Due.is("40", x.chance(1, 7, 40), true);
        Due.is("41", x.chance(1, 7, 41), false);
        Due.is("unchanged", x.waiting(0, 8, 0), 4000000000000000L);
        x.chance(0, 7, 0);
        Due.is("unchanged", x.waiting(0, 8, 0), 6000000000000000L);
    }

    private static void row(PaidWhereMade x, int from, long missed, int... row) {
        int n = row.length;
        Due.is("waiting(" + from + ", " + n + ", 0)", x.waiting(from, n, 0), missed);
        for (int h = 0; h < n; h++) {
            Due.is("waiting(" + from + ", " + n + ", " + (10 + h) + ")", x.waiting(from, n, 10 + h), row[h]);
        }
        Due.is("one hour more", x.waiting(from, n, 10 + n), -1);
    }

    private static void standing() {
        PaidWhereMade x = town(1);
        row(x, 0, 100, 0);
        row(x, 0, 10000000000000000L, 0, 0, 0, 0, 0, 0, 0, 0);
        x.chance(0, 1, 25);
        x.chance(0, 2, 10);
        row(x, 0, 675000, 0, 0, 0);
        Due.is("from none", x.waiting(1, 1, 0), -1);
        Due.is("0 hours", x.waiting(0, 0, 0), -1);
        Due.is("9 hours", x.waiting(0, 9, 0), -1);
        Due.is("what 1", x.waiting(0, 3, 1), -1);
        Due.is("what 9", x.waiting(0, 3, 9), -1);
        Due.is("what -1", x.waiting(0, 3, -1), -1);
    }

    private static void walking() {
        PaidWhereMade x = town(3);
        x.way(0, 1, 10);
        x.way(0, 2, 11);
        x.way(1, 2, 0);
        x.chance(1, 1, 50);
        x.chance(2, 2, 90);
        row(x, 0, 100, 0);
        row(x, 0, 5000, 10, 1);
        // 11 miles take two hours: there in hour 2
        row(x, 0, 100000, 10, 10, 2);
        x.way(0, 2, 21);
        // three hours now; by spot 1 it is as quick as it was, but one walks all the while
        row(x, 0, 100000, 10, 10, 2);
        x.way(1, 2, 11);
        row(x, 0, 500000, 10, 1, 1);
        x.chance(1, 1, 0);
        row(x, 0, 1000000, 0, 0, 0);
    }

    private static void metForSure() {
        PaidWhereMade x = town(3);
        x.chance(1, 1, 100);
        x.chance(0, 3, 60);
        x.chance(1, 3, 20);
        row(x, 1, 0, 1, 1, 1, 1);
        row(x, 0, 0, 10, 1, 1, 1);
        row(x, 2, 0, 10, 1, 1, 1);
        x.chance(0, 2, 100);
        row(x, 0, 0, 0, 0, 0, 0);
        row(x, 1, 0, 1, 1, 1, 1);
        // there is time to stand an hour first
        row(x, 2, 0, 2, 10, 0, 0);
        x.chance(1, 1, 99);
        row(x, 1, 0, 1, 10, 0, 0);
        row(x, 2, 0, 2, 10, 0, 0);
    }

    private static void ties() {
        PaidWhereMade x = town(4);
        x.chance(1, 1, 50);
        x.chance(2, 1, 50);
        row(x, 3, 5000, 10, 1);
        row(x, 2, 5000, 2, 2);
        x.chance(2, 2, 50);
        x.chance(1, 3, 50);
        row(x, 3, 25000000, 10, 1, 1, 1);
        x.chance(1, 1, 30);
        x.chance(1, 3, 30);
        // by spot 2 in hours 1 and 2: 50 * 50; by spot 1: 70 * 70
        row(x, 3, 25000000, 10, 2, 2, 2);
        x.chance(3, 3, 50);
        row(x, 3, 25000000, 10, 2, 2, 2);
    }
}
