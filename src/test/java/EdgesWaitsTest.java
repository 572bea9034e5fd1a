/** Promises 21 and 22 with what part 4 says of them: a test of its own for each sentence that names a boundary. */
public final class EdgesWaitsTest {
    private static final int LEAST = Integer.MIN_VALUE;
    private static final int MOST = Integer.MAX_VALUE;
    private static final int WALKING = 10;

    public static void main(String[] args) {
        chanceFrom0To100();
        chanceInHours0To7();
        chanceAtASpot();
        chancesOfAnHour();
        hoursFrom1To8();
        waitingFromNoSpot();
        waitingAnotherWhat();
        numberOf100ToTheN();
        onlyThoseHours();
        walkBy10Upwards();
        walkOneHourAtLeast();
        walkThatDoesNotEnd();
        walkMeetsNobody();
        walkOverOthers();
        leastSpotFirst();
        allOfTenSpots();
        metForSure();
        Due.finish();
    }

    private static void row(PaidWhereMade x, int from, long missed, int... row) {
        int n = row.length;
        Due.is("waiting(" + from + ", " + n + ", 0)", x.waiting(from, n, 0), missed);
        for (int h = 0; h < n; h++) {
            Due.is("waiting(" + from + ", " + n + ", " + (10 + h) + ")", x.waiting(from, n, 10 + h), row[h]);
        }
        Due.is("no hour behind the last", x.waiting(from, n, 10 + n), -1);
    }

    /** "CHANCES 0 .. 100 of a hundred .. (0 at first". */
    private static void chanceFrom0To100() {
        for (int v : new int[] {LEAST, -1, 101, MOST}) {
            Refusing.isFalse("chance of " + v, Towns::busy, x -> x.chance(0, 5, v));
        }
        PaidWhereMade x = Towns.plain(1, 0, 0);
        row(x, 0, 100, 0);
        Due.is("100", x.chance(0, 0, 100), true);
        row(x, 0, 0, 0);
        Due.is("99", x.chance(0, 0, 99), true);
        row(x, 0, 1, 0);
        Due.is("1", x.chance(0, 0, 1), true);
        row(x, 0, 99, 0);
        Due.is("0", x.chance(0, 0, 0), true);
        row(x, 0, 100, 0);
    }

    /** "in HOUR 0 .. 7". */
    private static void chanceInHours0To7() {
        for (int hour : new int[] {LEAST, -1, 8, 9, MOST}) {
            Refusing.isFalse("chance in " + hour, Towns::busy, x -> x.chance(0, hour, 5));
        }
        PaidWhereMade x = Towns.plain(10, 0, 0);
        Due.is("hour 0", x.chance(9, 0, 50), true);
        Due.is("hour 7", x.chance(9, 7, 50), true);
        row(x, 9, 2500000000000000L, 9, 9, 9, 9, 9, 9, 9, 9);
        Due.is("hour 8", x.chance(8, 8, 50), false);
        Due.is("hour -1", x.chance(9, -1, 50), false);
        row(x, 9, 2500000000000000L, 9, 9, 9, 9, 9, 9, 9, 9);
    }

    /** "A CHANCE: true; false if one can't be." */
    private static void chanceAtASpot() {
        for (int spot : new int[] {LEAST, -1, 3, 10, MOST}) {
            Refusing.isFalse("chance at " + spot, Towns::busy, x -> x.chance(spot, 5, 5));
            Refusing.isFalse("chance of 0 at " + spot, Towns::busy, x -> x.chance(spot, 5, 0));
        }
        Refusing.isFalse("chance at 10 of ten", Towns::full, x -> x.chance(10, 5, 5));
    }

    /** "told only if all of an HOUR come to 100 at most". */
    private static void chancesOfAnHour() {
        Refusing.isFalse("80 and 21", Towns::busy, x -> x.chance(2, 0, 21));
        Refusing.isFalse("100 and 1", Towns::busy, x -> x.chance(0, 3, 1));
        PaidWhereMade x = Towns.plain(10, 0, 0);
        for (int s = 0; s < 10; s++) {
            Due.is("ten of 10", x.chance(s, 4, 10), true);
        }
        Due.is("11 of the last", x.chance(9, 4, 11), false);
        Due.is("11 of the first", x.chance(0, 4, 11), false);
        Due.is("10 again", x.chance(0, 4, 10), true);
        Due.is("less", x.chance(9, 4, 9), true);
        Due.is("then 11 of the first", x.chance(0, 4, 11), true);
        Due.is("12 is one too many", x.chance(0, 4, 12), false);
        Due.is("another hour", x.chance(0, 5, 100), true);
        Due.is("0 beside 100", x.chance(1, 5, 0), true);
        Due.is("1 beside 100", x.chance(1, 5, 1), false);
        Due.is("instead of 100", x.chance(0, 5, 100), true);
        x.chance(0, 5, 0);
        row(x, 0, 8900000000L, 0, 0, 0, 0, 0);
    }

    /** "n HOURS (1 .. 8)". */
    private static void hoursFrom1To8() {
        for (int n : new int[] {LEAST, -1, 0, 9, 10, MOST}) {
            Refusing.is("waiting for " + n, Towns::busy, x -> x.waiting(0, n, 0), -1);
            Refusing.is("waiting for " + n, Towns::busy, x -> x.waiting(0, n, 10), -1);
        }
        PaidWhereMade x = Towns.plain(1, 0, 0);
        row(x, 0, 100, 0);
        row(x, 0, 10000000000000000L, 0, 0, 0, 0, 0, 0, 0, 0);
    }

    private static void waitingFromNoSpot() {
        for (int from : new int[] {LEAST, -1, 3, 10, MOST}) {
            Refusing.is("waiting from " + from, Towns::busy, x -> x.waiting(from, 1, 0), -1);
        }
        PaidWhereMade x = Towns.plain(10, 0, 0);
        row(x, 9, 100, 9);
        Due.is("from 10 of ten", x.waiting(10, 1, 0), -1);
    }

    /** "NONE if one can't be, or another what." */
    private static void waitingAnotherWhat() {
        for (int what : new int[] {LEAST, LEAST + 10, -1, 1, 9, 13, 17, 18, MOST}) {
            Refusing.is("waiting(0, 3, " + what + ")", Towns::busy, x -> x.waiting(0, 3, what), -1);
        }
    }

    /** "The least chance not to meet him, as a number of 100 to the n". */
    private static void numberOf100ToTheN() {
        PaidWhereMade x = Towns.plain(1, 0, 0);
        long missed = 1;
        for (int h = 0; h < 8; h++) {
            x.chance(0, h, 1);
        }
        for (int n = 1; n <= 8; n++) {
            missed *= 99;
            Due.is("99 to the " + n, x.waiting(0, n, 0), missed);
        }
        for (int h = 0; h < 8; h++) {
            x.chance(0, h, 99);
        }
        Due.is("1 to the 8", x.waiting(0, 8, 0), 1);
    }

    /** "From a SPOT in HOUR 0 on": hours behind the n-th don't count. */
    private static void onlyThoseHours() {
        PaidWhereMade x = Towns.plain(2, 0, 0);
        x.chance(0, 1, 40);
        x.chance(1, 2, 90);
        row(x, 0, 100, 0);
        row(x, 0, 6000, 0, 0);
        row(x, 0, 100000, 0, WALKING, 1);
        row(x, 0, 10000000L, 0, WALKING, 1, 1);
    }

    /** "from a to b that takes WAY by 10 (upwards; ..) HOURS". */
    private static void walkBy10Upwards() {
        int[] miles = {1, 9, 10, 11, 19, 20, 21, 30, 31, 69, 70};
        int[] hours = {1, 1, 1, 2, 2, 2, 3, 3, 4, 7, 7};
        for (int i = 0; i < miles.length; i++) {
            PaidWhereMade x = Towns.plain(2, 0, 0);
            x.way(1, 0, miles[i]);
            x.chance(0, hours[i], 30);
            int[] row = new int[hours[i] + 1];
            long missed = 70;
            for (int h = 0; h < hours[i]; h++) {
                row[h] = WALKING;
                missed *= 100;
            }
            row(x, 1, missed, row);
            x.chance(0, hours[i], 0);
            x.chance(0, hours[i] - 1, 30);
            java.util.Arrays.fill(row, 1);
            row(x, 1, missed / 70 * 100, row);
        }
    }

    /** "(..; 1 at least)": no miles take an hour too. */
    private static void walkOneHourAtLeast() {
        PaidWhereMade x = Towns.plain(2, 0, 0);
        x.way(0, 1, 0);
        x.chance(1, 0, 100);
        row(x, 0, 100, 0);
        row(x, 0, 10000, 0, 0);
        x.chance(1, 1, 50);
        row(x, 0, 5000, WALKING, 1);
    }

    /** A walk that is not over in the n-th hour is as good as standing, and standing comes first. */
    private static void walkThatDoesNotEnd() {
        PaidWhereMade x = Towns.plain(2, 0, 0);
        x.chance(1, 7, 100);
        x.way(0, 1, 70);
        row(x, 0, 0, WALKING, WALKING, WALKING, WALKING, WALKING, WALKING, WALKING, 1);
        row(x, 0, 100000000000000L, 0, 0, 0, 0, 0, 0, 0);
        x.way(0, 1, 71);
        row(x, 0, 10000000000000000L, 0, 0, 0, 0, 0, 0, 0, 0);
        x.way(0, 1, 99);
        row(x, 0, 10000000000000000L, 0, 0, 0, 0, 0, 0, 0, 0);
    }

    /** "in each HOUR one stands at a SPOT, or walks": who walks meets nobody. */
    private static void walkMeetsNobody() {
        PaidWhereMade x = Towns.plain(2, 0, 0);
        x.way(0, 1, 20);
        x.chance(1, 0, 90);
        x.chance(1, 1, 100);
        x.chance(1, 2, 1);
        row(x, 0, 990000, WALKING, WALKING, 1);
        x.chance(0, 0, 2);
        row(x, 0, 980000, 0, 0, 0);
        x.chance(0, 0, 1);
        row(x, 0, 990000, 0, 0, 0);
    }

    /** One may walk on from spot to spot without standing; way by way is counted upwards. */
    private static void walkOverOthers() {
        PaidWhereMade x = Towns.plain(3, 0, 0);
        x.way(0, 2, 99);
        x.way(0, 1, 10);
        x.way(1, 2, 10);
        x.chance(2, 2, 50);
        row(x, 0, 500000, WALKING, WALKING, 2);
        x.way(0, 1, 1);
        x.way(1, 2, 1);
        x.chance(2, 2, 0);
        x.chance(2, 1, 50);
        row(x, 0, 1000000, 0, 0, 0);
    }

    /** "of several ways that with the SPOT of the first HOUR least (10: walking), then of the second ..". */
    private static void leastSpotFirst() {
        PaidWhereMade x = Towns.plain(4, 0, 0);
        row(x, 3, 10000, 3, 3);
        x.chance(0, 1, 20);
        x.chance(1, 1, 20);
        row(x, 3, 8000, WALKING, 0);
        x.chance(3, 0, 20);
        row(x, 3, 8000, 3, 3);
        x.chance(3, 0, 0);
        x.chance(2, 2, 20);
        // one may stand an hour and still be on time at 2, or walk at once to 0
        row(x, 3, 800000, 3, WALKING, 2);
        x.chance(1, 2, 20);
        row(x, 3, 640000, WALKING, 1, 1);
        x.chance(0, 2, 20);
        row(x, 3, 640000, WALKING, 0, 0);
        PaidWhereMade y = Towns.plain(3, 0, 0);
        y.way(0, 1, 20);
        y.way(1, 2, 99);
        y.chance(1, 2, 90);
        y.chance(2, 1, 50);
        // the least chance comes ahead of the least spots
        row(y, 0, 100000, WALKING, WALKING, 1);
    }

    private static void allOfTenSpots() {
        PaidWhereMade x = Towns.plain(10, 0, 0);
        for (int h = 1; h < 8; h += 2) {
            x.chance(9 - h, h, 50);
        }
        row(x, 9, 625000000000000L, WALKING, 8, WALKING, 6, WALKING, 4, WALKING, 2);
        row(x, 0, 625000000000000L, WALKING, 8, WALKING, 6, WALKING, 4, WALKING, 2);
        row(x, 8, 625000000000000L, 8, 8, WALKING, 6, WALKING, 4, WALKING, 2);
        // fewer hours behind more: nothing is left of those
        row(x, 8, 125000000000L, 8, 8, WALKING, 6, WALKING, 4);
        row(x, 8, 2500000000L, 8, 8, WALKING, 6, 6);
        row(x, 8, 500000, 8, 8, 8);
        row(x, 9, 100, 9);
    }

    /** Behind a chance of 100 all ways have 0, and the least of them stays where one is. */
    private static void metForSure() {
        PaidWhereMade x = Towns.plain(3, 0, 0);
        x.chance(2, 0, 100);
        x.chance(0, 2, 50);
        row(x, 2, 0, 2, 2, 2, 2);
        x.chance(2, 0, 0);
        x.chance(1, 2, 50);
        x.chance(1, 3, 100);
        row(x, 1, 0, 1, 1, 1, 1);
        row(x, 2, 0, 2, 2, WALKING, 1);
        row(x, 0, 0, 0, 0, WALKING, 1);
        x.chance(2, 1, 100);
        row(x, 0, 0, 0, 0, WALKING, 1);
        row(x, 1, 0, 1, 1, 1, 1);
        row(x, 2, 0, 2, 2, 2, 2);
    }
}
