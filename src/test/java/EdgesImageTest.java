import java.util.Arrays;

/** Promises 25 and 26, and the 512 calls of an object: a test of its own for each sentence that names a boundary. */
public final class EdgesImageTest {
    private static final int LEAST = Integer.MIN_VALUE;
    private static final int MOST = Integer.MAX_VALUE;
    private static final int CALLS = 512;

    public static void main(String[] args) {
        noneYet();
        ofANewObject();
        ofAFullTown();
        ofTheLastSunday();
        moreThanOnce();
        theLatestTaken();
        takingChangesNothing();
        notTheTape();
        notTheFault();
        whatComesAgainIsNew();
        lawIsKept();
        goalsAreKept();
        fogIsKept();
        lookAtFirst();
        lookAtTheMost();
        lookAnotherWhat();
        callsOfOneObject();
        Due.finish();
    }

    /** "true; false if there is none." */
    private static void noneYet() {
        Refusing.isFalse("image(false) without one", Towns::full, x -> x.image(false));
        PaidWhereMade x = new PaidWhereMade();
        Due.is("none", x.image(false), false);
        x.spot(0);
        Due.is("none still", x.image(false), false);
        Due.is("nothing is gone", x.look(0), 1);
        Due.is("taken", x.image(true), true);
        Due.is("gone back to", x.image(false), true);
    }

    /** The image of a new object: nobody there. */
    private static void ofANewObject() {
        PaidWhereMade x = new PaidWhereMade();
        x.image(true);
        tellAll(x);
        Due.is("gone back", x.image(false), true);
        Due.is("as new", Arrays.equals(Refusing.view(x), viewOfNew()), true);
    }

    private static long[] viewOfNew() {
        PaidWhereMade x = new PaidWhereMade();
        x.image(true);
        return Refusing.view(x);
    }

    private static void tellAll(PaidWhereMade x) {
        x.state(77);
        x.spot(5);
        x.spot(6);
        x.way(0, 1, 50);
        x.person(0, 50, 5);
        x.person(1, 60, 6);
        x.debt(0, 1, 5, 0);
        x.debt(1, 0, 9999, 1);
        x.set(0, 50);
        x.set(1, 60);
        x.set(2, 1);
        x.set(3, 7);
        x.chance(0, 0, 70);
        x.line(0, 0, -1, 0);
        x.line(0, 0, -1, 1);
        Feeding.law(x, "bar when coins=5;");
        x.goal(0, 1);
        x.sunday();
        x.pass(20);
        x.goal(0, 1);
    }

    /** A full town, gone back to from one in which all has gone on. */
    private static void ofAFullTown() {
        PaidWhereMade x = Towns.full();
        x.end(0);
        x.image(true);
        x.way(8, 9, 77);
        x.set(3, 1);
        x.set(1, 50);
        x.chance(9, 7, 100);
        x.goal(9, 0);
        x.pass(30);
        x.image(false);
        PaidWhereMade y = Towns.full();
        y.end(0);
        y.image(true);
        Due.is("as it was", Arrays.equals(Refusing.view(x), Refusing.view(y)), true);
    }

    private static void ofTheLastSunday() {
        PaidWhereMade x = new PaidWhereMade();
        x.image(true);
        for (int i = 0; i < 24; i++) {
            x.pass(400);
        }
        x.pass(399);
        Due.is("beyond", x.sunday(), -1);
        x.image(false);
        Due.is("Sunday 0 again", x.look(4), 0);
        Due.is("and on", x.sunday(), 0);
        for (int i = 0; i < 24; i++) {
            x.pass(400);
        }
        x.pass(398);
        x.image(true);
        x.image(false);
        Due.is("Sunday 9999", x.look(4), 9999);
        Due.is("beyond", x.sunday(), -1);
    }

    /** "gone back to it may be more than once". */
    private static void moreThanOnce() {
        PaidWhereMade x = Towns.plain(1, 2, 9);
        x.debt(0, 1, 5, 0);
        x.set(0, 50);
        x.image(true);
        int state = 0;
        for (int again = 0; again < 5; again++) {
            Due.is("paid anew", x.sunday(), 1);
            Due.is("of(0, 1)", x.of(0, 1), 4);
            Due.is("the same draw", again == 0 || x.look(6) == state, true);
            state = x.look(6);
            Due.is("gone back", x.image(false), true);
            Due.is("open again", x.owed(0, 6), 0);
            Due.is("not paid", x.owed(0, 5), -1);
            Due.is("nobody stood anywhere", x.of(0, 4), -1);
            Due.is("of(0, 1)", x.of(0, 1), 9);
            Due.is("look(6)", x.look(6), 0);
            Due.is("twice in a row", x.image(false), true);
        }
    }

    /** "as it was when it was taken": a later one takes the place of the earlier one. */
    private static void theLatestTaken() {
        PaidWhereMade x = new PaidWhereMade();
        x.image(true);
        x.spot(0);
        x.image(true);
        x.spot(0);
        x.image(false);
        Due.is("the later one", x.look(0), 1);
        x.spot(0);
        x.spot(0);
        x.image(true);
        x.image(false);
        Due.is("the latest one", x.look(0), 3);
    }

    private static void takingChangesNothing() {
        PaidWhereMade x = Towns.plain(2, 2, 5);
        x.debt(0, 1, 5, 1);
        x.goal(0, 1);
        x.goal(1, 1);
        Feeding.put(x, Feeding.bytes("bar"));
        Due.is("taken", x.image(true), true);
        Due.is("the tape is as it was", x.end(4), false);
        Due.is("the goals are as they were", x.sunday(), 1);
    }

    /** "all .. but the TAPE". */
    private static void notTheTape() {
        PaidWhereMade x = new PaidWhereMade();
        Feeding.put(x, Feeding.bytes("pay;pay;"));
        x.image(true);
        Due.is("end(4)", x.end(4), true);
        x.image(false);
        Due.is("it is shorter still", x.end(5), false);
        Due.is("one line", x.text(), 1);
        x.image(false);
        Due.is("it is empty still", x.end(1), false);
        Due.is("but the law is gone", x.look(8), 0);
        Due.is("feed", x.feed(0x6261723b, 0x20202020, 0x20202020, 0x20202020, 0x20202020), 20);
        x.image(false);
        Due.is("it is there still", x.end(4), true);
        Due.is("one line", x.text(), 1);
    }

    /** "and fault()". */
    private static void notTheFault() {
        PaidWhereMade x = new PaidWhereMade();
        x.image(true);
        Feeding.law(x, "pay when 1/0=1;");
        x.image(false);
        Due.is("fault(0)", x.fault(0), 2);
        Due.is("fault(1)", x.fault(1), 11);
        x.image(true);
        Feeding.law(x, "pay;");
        x.image(false);
        Due.is("fault(0)", x.fault(0), 0);
        Due.is("fault(1)", x.fault(1), -1);
    }

    /** What came behind the image is gone: what comes again under its number begins anew. */
    private static void whatComesAgainIsNew() {
        PaidWhereMade x = Towns.plain(1, 1, 5);
        x.image(true);
        x.spot(7);
        x.way(0, 1, 50);
        x.chance(1, 0, 100);
        x.person(1, 5, 5);
        x.debt(0, 1, 5, 0);
        x.line(0, 0, -1, 0);
        x.line(0, 0, -1, 1);
        x.sunday();
        x.image(false);
        Due.is("no such person", x.of(1, 0), -2);
        Due.is("no such debt", x.owed(0, 0), -2);
        Due.is("no such spot", x.tour(0, 2), -1);
        Due.is("no lines", x.wrong(0), 0);
        Due.is("a spot", x.spot(0), 1);
        Due.is("9 miles again", x.tour(0, 2), 18);
        Due.is("no chance", x.waiting(1, 1, 0), 100);
        Due.is("all of the hour is free", x.chance(0, 0, 100), true);
        Due.is("a person", x.person(0, 0, 0), 1);
        Due.is("stood nowhere", x.of(1, 4), -1);
        Due.is("home is the goal", x.of(1, 3), 0);
        Due.is("a debt", x.debt(0, 1, 5, 0), 0);
        Due.is("open", x.owed(0, 6), 0);
        Due.is("not paid", x.owed(0, 5), -1);
        Due.is("a line", x.line(0, 0, -1, 0), 0);
        Due.is("none wrong", x.wrong(0), 0);
    }

    private static void lawIsKept() {
        PaidWhereMade x = Towns.plain(1, 2, 5);
        x.debt(0, 1, 5, 0);
        Feeding.law(x, "bar when coins+0*1=5;pay;");
        x.image(true);
        Feeding.law(x, "");
        Due.is("let", x.owed(0, 7), 1);
        x.image(false);
        Due.is("two lines", x.look(8), 2);
        Due.is("barred", x.owed(0, 7), 0);
        Due.is("barred", x.sunday(), 0);
        Feeding.law(x, "pay when 1=1 and coins=5;bar;pay;");
        Due.is("let", x.owed(0, 7), 1);
        x.image(false);
        Due.is("barred", x.owed(0, 7), 0);
        Due.is("the law stays as it was", Feeding.law(x, "pay"), -1);
        Due.is("barred", x.owed(0, 7), 0);
    }

    private static void goalsAreKept() {
        PaidWhereMade x = Towns.plain(3, 2, 0);
        x.goal(0, 2);
        x.image(true);
        x.goal(0, 1);
        x.goal(1, 1);
        x.image(false);
        Due.is("of(0, 3)", x.of(0, 3), 2);
        Due.is("of(1, 3)", x.of(1, 3), 0);
        x.sunday();
        Due.is("of(0, 4)", x.of(0, 4), 2);
        Due.is("look(5)", x.look(5), 18);
        x.image(false);
        Due.is("look(5)", x.look(5), 0);
        Due.is("of(0, 3)", x.of(0, 3), 2);
    }

    private static void fogIsKept() {
        PaidWhereMade x = new PaidWhereMade();
        x.image(true);
        x.set(0, 100);
        x.sunday();
        Due.is("fog", x.look(9), 1);
        x.image(false);
        Due.is("none yet", x.look(9), 0);
        Due.is("FOG 0 again", x.look(20), 0);
        x.set(0, 100);
        x.sunday();
        x.image(true);
        x.set(0, 0);
        x.sunday();
        Due.is("none", x.look(9), 0);
        x.image(false);
        Due.is("fog again", x.look(9), 1);
        Due.is("FOG 100 again", x.look(20), 100);
    }

    private static void lookAtFirst() {
        PaidWhereMade x = new PaidWhereMade();
        for (int what = 0; what < 10; what++) {
            Due.is("look(" + what + ")", x.look(what), 0);
        }
    }

    /** Each number that look() tells, where it is greatest. */
    private static void lookAtTheMost() {
        PaidWhereMade x = Towns.full();
        x.state(LEAST);
        x.end(0);
        Feeding.law(x, "pay;".repeat(16));
        int[] most = {10, 10, 30, 30, 0, 0, LEAST, 30, 16, 0};
        for (int what = 0; what < most.length; what++) {
            Due.is("look(" + what + ")", x.look(what), most[what]);
        }
        PaidWhereMade y = Towns.plain(2, 10, 0);
        y.way(0, 1, 99);
        for (int i = 0; i < 20; i++) {
            for (int p = 0; p < 10; p++) {
                y.goal(p, 1);
            }
            y.sunday();
        }
        Due.is("miles of twenty Sundays", y.look(5), 20 * 10 * 198);
        Due.is("Sunday", y.look(4), 20);
        PaidWhereMade z = Towns.plain(1, 2, 30);
        for (int d = 0; d < 30; d++) {
            z.debt(0, 1, d < 29 ? 1 : 9, 0);
        }
        z.sunday();
        Due.is("debts that are paid count", z.look(2), 30);
        Due.is("but not among the open ones", z.look(3), 1);
    }

    /** "20 + k what was told as set() k. NONE for another what." */
    private static void lookAnotherWhat() {
        for (int what : new int[] {LEAST, LEAST + 20, -20, -2, -1, 10, 11, 19, 24, 25, 30, 52, MOST}) {
            Refusing.is("look(" + what + ")", Towns::busy, x -> x.look(what), -1);
        }
        PaidWhereMade x = Towns.busy();
        int[] told = {30, 10, 1, 2};
        for (int k = 0; k < 4; k++) {
            Due.is("look(" + (20 + k) + ")", x.look(20 + k), told[k]);
        }
    }

    /** "An object is used for at most 512 calls after it has been made": the last of them is as good as the first. */
    private static void callsOfOneObject() {
        PaidWhereMade x = new PaidWhereMade();
        x.set(0, 50);
        int state = 0;
        for (int call = 2; call < CALLS; call++) {
            Due.is("sunday()", x.sunday(), 0);
            state = 1664525 * state + 1013904223;
        }
        Due.is("the 512th call", x.look(6), state);
        PaidWhereMade y = new PaidWhereMade();
        for (int call = 1; call < CALLS; call++) {
            Due.is("image(true)", y.image(true), true);
        }
        Due.is("the 512th call", y.image(false), true);
        PaidWhereMade z = new PaidWhereMade();
        for (int call = 1; call < CALLS; call += 2) {
            Due.is("feed", z.feed(0, 0, 0, 0, 0), 20);
            Due.is("text()", z.text(), -1);
        }
    }
}
