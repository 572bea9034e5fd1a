/** Promise 25: the image keeps all but the tape and fault(). */
public final class ImageTest {
    public static void main(String[] args) {
        PaidWhereMade x = new PaidWhereMade();
        Due.is("none yet", x.image(false), false);
        tell(x);
        x.feed(0x7061793b, 0, 0, 0, 0);
        x.end(4);
        long[] before = all(x);
        Due.is("taken", x.image(true), true);
        for (int again = 0; again < 3; again++) {
            change(x);
            Due.is("changed", same(before, all(x)), false);
            Due.is("gone back", x.image(false), true);
            Due.is("all as it was", same(before, all(x)), true);
        }
        Due.is("fault() is not kept", x.fault(0), 1);
        Due.is("fault() is not kept", x.fault(1), 0);
        x.feed(0x7061793b, 0, 0, 0, 0);
        x.image(false);
        Due.is("the tape is not kept", x.feed(0, 0, 0, 0, 0), 40);
        x.sunday();
        long[] later = all(x);
        Due.is("taken anew", x.image(true), true);
        change(x);
        Due.is("gone back", x.image(false), true);
        Due.is("to the later one", same(later, all(x)), true);
        goesOn();
        Due.finish();
    }

    private static void tell(PaidWhereMade x) {
        x.state(99);
        x.spot(0);
        x.spot(2);
        x.way(0, 1, 30);
        x.person(0, 30, 20);
        x.person(1, 40, 50);
        x.debt(0, 1, 10, 0);
        x.debt(1, 0, 20, 1);
        x.set(0, 40);
        x.set(1, 10);
        x.set(3, 2);
        x.sunday();
        x.goal(0, 1);
        x.chance(1, 2, 40);
        x.line(3, 0, -1, 1);
        x.line(3, 0, 1, -1);
        Feeding.law(x, "bar when coins > 100; pay;");
    }

    private static void change(PaidWhereMade x) {
        x.way(0, 1, 5);
        x.goal(1, 0);
        x.sunday();
        x.pass(5);
        x.spot(5);
        x.person(2, 1, 1);
        x.debt(2, 1, 5, 0);
        x.set(0, 1);
        x.set(1, 2);
        x.set(2, 1);
        x.set(3, 4);
        x.chance(1, 2, 90);
        x.line(3, 1, -1, 0);
        Feeding.law(x, "bar;");
        x.state(5);
        Feeding.law(x, "nonsense");
    }

    private static long[] all(PaidWhereMade x) {
        long[] row = new long[150];
        int n = 0;
        for (int what = 0; what < 24; what++) {
            row[n++] = x.look(what);
        }
        for (int p = 0; p < 3; p++) {
            for (int what = 0; what < 7; what++) {
                row[n++] = x.of(p, what);
            }
        }
        for (int d = 0; d < 4; d++) {
            for (int what = 0; what < 8; what++) {
                row[n++] = x.owed(d, what);
            }
        }
        row[n++] = x.tour(0, 2);
        row[n++] = x.wrong(3);
        row[n++] = x.cleared(0);
        row[n++] = x.first(0, 0);
        row[n++] = x.waiting(1, 3, 0);
        row[n++] = x.share(0, 3, 1, 0);
        return row;
    }

    private static boolean same(long[] a, long[] b) {
        return java.util.Arrays.equals(a, b);
    }

    /** From the image all goes on as it went on the first time. */
    private static void goesOn() {
        PaidWhereMade x = new PaidWhereMade();
        tell(x);
        x.image(true);
        x.pass(9);
        long[] first = all(x);
        x.image(false);
        x.pass(9);
        Due.is("goes on the same way", same(first, all(x)), true);
    }
}
