import java.util.Arrays;

/** A call that is refused answers so and leaves the object as it was; so does a call that only asks. */
final class Refusing {
    private static final int MOST_SEEN = 400;

    interface Making {
        PaidWhereMade make();
    }

    interface Asking {
        long ask(PaidWhereMade x);
    }

    interface Telling {
        boolean tell(PaidWhereMade x);
    }

    private Refusing() {
    }

    /** The call on a new town, whose view must be the same as that of a town without the call. */
    static void is(String call, Making making, Asking asking, long want) {
        long[] untouched = view(making.make());
        PaidWhereMade x = making.make();
        Due.is(call, asking.ask(x), want);
        Due.is(call + " changes nothing", Arrays.equals(view(x), untouched), true);
    }

    static void isFalse(String call, Making making, Telling telling) {
        is(call, making, x -> telling.tell(x) ? 1 : 0, 0);
    }

    /** All that can be seen of an object, and how it goes on; the object is spent by it. */
    static long[] view(PaidWhereMade x) {
        long[] row = new long[MOST_SEEN];
        int n = seeNow(x, row);
        row[n++] = x.fault(0);
        row[n++] = x.fault(1);
        row[n++] = x.sunday();
        n = seePeople(x, row, n);
        row[n++] = x.feed(0x20202020, 0x20202020, 0x20202020, 0x20202020, 0x20202020);
        row[n++] = x.text();
        row[n++] = x.owed(0, 7);
        row[n++] = x.image(false) ? 1 : 0;
        for (int what = 0; what < 10; what++) {
            row[n++] = x.look(what);
        }
        return Arrays.copyOf(row, n);
    }

    private static int seeNow(PaidWhereMade x, long[] row) {
        int n = 0;
        for (int what = 0; what < 24; what++) {
            row[n++] = x.look(what);
        }
        n = seePeople(x, row, n);
        for (int d = 0; d < x.look(2); d++) {
            for (int what : new int[] {2, 5, 6, 7}) {
                row[n++] = x.owed(d, what);
            }
        }
        for (int s = 0; s < x.look(0); s++) {
            row[n++] = x.waiting(s, 8, 0);
            for (int t = 0; t < s; t++) {
                row[n++] = x.tour(s, 1 << t);
            }
        }
        for (int day = 0; day < 8; day++) {
            row[n++] = x.wrong(day);
        }
        return n;
    }

    private static int seePeople(PaidWhereMade x, long[] row, int from) {
        int n = from;
        for (int p = 0; p < x.look(1); p++) {
            for (int what : new int[] {1, 3, 4}) {
                row[n++] = x.of(p, what);
            }
        }
        return n;
    }
}
