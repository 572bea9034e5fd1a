/** Promises 23 and 24 with what part 4 says of them: a test of its own for each sentence that names a boundary. */
public final class EdgesLinesTest {
    private static final int LEAST = Integer.MIN_VALUE;
    private static final int MOST = Integer.MAX_VALUE;

    public static void main(String[] args) {
        onASunday();
        wasAtASpot();
        metAnother();
        neitherOrBoth();
        thirtyLines();
        wrongOfASunday();
        wrongOfNoLines();
        wrongOfThatSundayAlone();
        fivePeople();
        sixPeople();
        allThirtyOfOneSunday();
        onOneSpotAtOnce();
        metOnAnySpot();
        fewestLinesWithout();
        Due.finish();
    }

    /** "on a SUNDAY", which is 0 .. 9999, gone by or not. */
    private static void onASunday() {
        for (int day : new int[] {LEAST, -2, -1, 10000, MOST}) {
            Refusing.is("line on " + day, Towns::busy, x -> x.line(day, 0, -1, 1), -1);
            Refusing.is("meeting on " + day, Towns::busy, x -> x.line(day, 0, 1, -1), -1);
        }
        PaidWhereMade x = Towns.plain(2, 1, 0);
        for (int day : new int[] {0, 9999}) {
            Due.is("wrong(" + day + ")", x.wrong(day), 0);
            x.line(day, 0, -1, 0);
            x.line(day, 0, -1, 1);
            Due.is("wrong(" + day + ")", x.wrong(day), 1);
        }
        Due.is("look(7)", x.look(7), 4);
    }

    /** "a was at a SPOT (b NONE)". */
    private static void wasAtASpot() {
        for (int a : new int[] {LEAST, -1, 3, 10, MOST}) {
            Refusing.is(a + " was at 1", Towns::busy, x -> x.line(0, a, -1, 1), -1);
        }
        for (int spot : new int[] {LEAST, -2, -1, 3, 10, MOST}) {
            Refusing.is("0 was at " + spot, Towns::busy, x -> x.line(0, 0, -1, spot), -1);
        }
        PaidWhereMade x = Towns.plain(10, 10, 0);
        Due.is("9 was at 9", x.line(0, 9, -1, 9), 0);
        Due.is("0 was at 0", x.line(0, 0, -1, 0), 1);
        Due.is("9 was at 10", x.line(0, 9, -1, 10), -1);
        Due.is("10 was at 9", x.line(0, 10, -1, 9), -1);
    }

    /** "or a met b (spot NONE)". */
    private static void metAnother() {
        for (int p : new int[] {LEAST, -2, -1, 3, 10, MOST}) {
            Refusing.is(p + " met 1", Towns::busy, x -> x.line(0, p, 1, -1), -1);
            Refusing.is("1 met " + p, Towns::busy, x -> x.line(0, 1, p, -1), -1);
        }
        for (int p = -1; p < 4; p++) {
            int one = p;
            Refusing.is(p + " met himself", Towns::busy, x -> x.line(0, one, one, -1), -1);
        }
        PaidWhereMade x = Towns.plain(1, 10, 0);
        Due.is("9 met 0", x.line(0, 9, 0, -1), 0);
        Due.is("0 met 9", x.line(0, 0, 9, -1), 1);
        Due.is("10 met 0", x.line(0, 10, 0, -1), -1);
    }

    /** One of both is told: "a SPOT (b NONE), or a met b (spot NONE)". */
    private static void neitherOrBoth() {
        Refusing.is("both", Towns::busy, x -> x.line(0, 0, 1, 1), -1);
        Refusing.is("neither", Towns::busy, x -> x.line(0, 0, -1, -1), -1);
        Refusing.is("met at none", Towns::busy, x -> x.line(0, 0, 1, -2), -1);
        Refusing.is("was with none", Towns::busy, x -> x.line(0, 0, -2, 1), -1);
    }

    /** "LINES (30 at most)"; "NONE if one can't be, or there are thirty." */
    private static void thirtyLines() {
        PaidWhereMade x = Towns.plain(2, 2, 0);
        for (int i = 0; i < 30; i++) {
            Due.is("refused ones take no number", x.line(i, 0, 0, -1), -1);
            Due.is("line", i % 2 == 0 ? x.line(i, 0, 1, -1) : x.line(i, 1, -1, 1), i);
        }
        Due.is("look(7)", x.look(7), 30);
        Refusing.is("a thirty-first line", Towns::full, y -> y.line(0, 0, -1, 1), -1);
        Refusing.is("a thirty-first meeting", Towns::full, y -> y.line(0, 0, 1, -1), -1);
    }

    /** "NONE if one can't be": a Sunday that is none. */
    private static void wrongOfASunday() {
        for (int day : new int[] {LEAST, -1, 10000, MOST}) {
            Refusing.is("wrong(" + day + ")", Towns::busy, x -> x.wrong(day), -1);
        }
        PaidWhereMade x = new PaidWhereMade();
        Due.is("wrong(0)", x.wrong(0), 0);
        Due.is("wrong(9999)", x.wrong(9999), 0);
    }

    private static void wrongOfNoLines() {
        PaidWhereMade x = Towns.plain(2, 2, 0);
        x.line(3, 0, -1, 0);
        x.line(3, 0, -1, 1);
        Due.is("the day before", x.wrong(2), 0);
        Due.is("that day", x.wrong(3), 1);
        Due.is("the day behind", x.wrong(4), 0);
    }

    /** "the fewest LINES of that SUNDAY". */
    private static void wrongOfThatSundayAlone() {
        PaidWhereMade x = Towns.plain(3, 2, 0);
        x.line(0, 0, -1, 0);
        x.line(1, 0, -1, 1);
        x.line(0, 1, -1, 1);
        x.line(1, 0, 1, -1);
        x.line(2, 0, -1, 2);
        for (int day = 0; day < 3; day++) {
            Due.is("wrong(" + day + ")", x.wrong(day), 0);
        }
        x.line(0, 1, 0, -1);
        Due.is("wrong(0)", x.wrong(0), 1);
        Due.is("wrong(1)", x.wrong(1), 0);
    }

    /** "(5 PEOPLE in its LINES at most)": any five of ten, told once or often, first or second. */
    private static void fivePeople() {
        PaidWhereMade x = Towns.plain(10, 10, 0);
        for (int p = 5; p < 10; p++) {
            x.line(0, p, -1, p);
            x.line(0, p, -1, p);
        }
        Due.is("five of ten", x.wrong(0), 0);
        for (int p = 5; p < 9; p++) {
            x.line(0, p, p + 1, -1);
        }
        Due.is("and they met", x.wrong(0), 4);
        x.line(1, 0, 9, -1);
        x.line(1, 8, 1, -1);
        x.line(1, 9, 4, -1);
        Due.is("five who met", x.wrong(1), 0);
        x.line(1, 0, -1, 3);
        x.line(1, 4, -1, 2);
        Due.is("and two were apart", x.wrong(1), 1);
    }

    /** "NONE if one can't be (more than five)." */
    private static void sixPeople() {
        PaidWhereMade x = Towns.plain(2, 10, 0);
        for (int p = 0; p < 5; p++) {
            x.line(4, p, -1, 0);
        }
        Due.is("five", x.wrong(4), 0);
        x.line(5, 5, -1, 0);
        Due.is("a sixth on another Sunday", x.wrong(4), 0);
        x.line(4, 0, 5, -1);
        Due.is("a sixth who was met", x.wrong(4), -1);
        Due.is("the other Sunday", x.wrong(5), 0);
        for (int p = 0; p < 9; p += 2) {
            x.line(6, p, p + 1, -1);
        }
        Due.is("ten who met", x.wrong(6), -1);
        for (int p = 0; p < 6; p++) {
            x.line(7, 9 - p, -1, 0);
        }
        Due.is("a sixth who was somewhere", x.wrong(7), -1);
        Refusing.is("wrong of six", () -> x0(6), y -> y.wrong(0), -1);
    }

    private static PaidWhereMade x0(int people) {
        PaidWhereMade x = Towns.plain(2, people, 0);
        for (int p = 0; p < people; p++) {
            x.line(0, p, -1, 1);
        }
        return x;
    }

    private static void allThirtyOfOneSunday() {
        PaidWhereMade x = Towns.plain(10, 5, 0);
        for (int i = 0; i < 30; i++) {
            x.line(0, 3, -1, i % 10);
        }
        Due.is("one on ten spots, three times each", x.wrong(0), 27);
        PaidWhereMade y = Towns.plain(10, 5, 0);
        for (int i = 0; i < 30; i++) {
            y.line(0, i % 5, -1, 9);
        }
        Due.is("all on the last spot", y.wrong(0), 0);
        PaidWhereMade z = Towns.plain(10, 5, 0);
        for (int i = 0; i < 30; i++) {
            z.line(0, i % 2, 1 - i % 2, -1);
        }
        Due.is("two who met thirty times", z.wrong(0), 0);
    }

    /** One is on one spot alone a Sunday. */
    private static void onOneSpotAtOnce() {
        PaidWhereMade x = Towns.plain(3, 1, 0);
        int[] spots = {0, 1, 1, 2, 0, 0};
        int[] want = {0, 1, 1, 2, 3, 3};
        for (int i = 0; i < spots.length; i++) {
            x.line(0, 0, -1, spots[i]);
            Due.is("line " + i, x.wrong(0), want[i]);
        }
    }

    /** "two of PEOPLE met (stood on one SPOT)": those who met nobody may stand there too. */
    private static void metOnAnySpot() {
        PaidWhereMade x = Towns.plain(1, 5, 0);
        x.line(0, 0, 1, -1);
        x.line(0, 2, 3, -1);
        x.line(0, 4, -1, 0);
        Due.is("one spot is enough", x.wrong(0), 0);
        PaidWhereMade y = Towns.plain(2, 3, 0);
        y.line(0, 0, 1, -1);
        y.line(0, 1, 2, -1);
        y.line(0, 0, -1, 0);
        y.line(0, 2, -1, 0);
        Due.is("a chain that ends where it began", y.wrong(0), 0);
        y.line(0, 1, -1, 1);
        Due.is("but its middle was elsewhere", y.wrong(0), 1);
        y.line(0, 1, -1, 1);
        Due.is("told twice", y.wrong(0), 2);
        y.line(0, 1, -1, 1);
        Due.is("told three times: both meetings are wrong", y.wrong(0), 2);
    }

    /** "the fewest LINES of that SUNDAY without which all others can be so". */
    private static void fewestLinesWithout() {
        PaidWhereMade x = Towns.plain(2, 5, 0);
        x.line(0, 0, -1, 0);
        x.line(0, 0, -1, 0);
        x.line(0, 4, -1, 1);
        x.line(0, 4, -1, 1);
        x.line(0, 0, 1, -1);
        x.line(0, 0, 2, -1);
        x.line(0, 0, 3, -1);
        x.line(0, 4, 1, -1);
        x.line(0, 4, 2, -1);
        x.line(0, 4, 3, -1);
        // to put 4 on the spot of 0 breaks two lines, to part them three
        Due.is("two lines, not three", x.wrong(0), 2);
        x.line(0, 0, -1, 0);
        x.line(0, 4, -1, 1);
        Due.is("three either way", x.wrong(0), 3);
        x.line(0, 0, -1, 0);
        x.line(0, 4, -1, 1);
        Due.is("three meetings, not four lines", x.wrong(0), 3);
        x.line(0, 1, -1, 0);
        Due.is("one of them with 0", x.wrong(0), 3);
        x.line(0, 1, -1, 1);
        Due.is("and with 4", x.wrong(0), 4);
    }
}
