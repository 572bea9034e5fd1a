/** Promises 17 to 20 with what part 4 says of them: a test of its own for each sentence that names a boundary. */
public final class EdgesPlansTest {
    private static final int LEAST = Integer.MIN_VALUE;
    private static final int MOST = Integer.MAX_VALUE;

    public static void main(String[] args) {
        clearedOfNothing();
        clearedOfTen();
        clearedOfEleven();
        clearedAnotherWhat();
        clearedOnOneSpot();
        clearedNotAsked();
        clearedGreatestFirst();
        clearedFewestFirst();
        clearedCountsOpenOnes();
        plansApart();
        firstOfNothing();
        firstOfEight();
        firstOfNine();
        firstOfNobody();
        firstAnotherWhat();
        firstGrowsAhead();
        firstOfSeveral();
        firstAtTheMost();
        tourOfNothing();
        tourOfAllTen();
        tourOfNoSpot();
        tourByTheWayAlone();
        shareOfOne();
        shareOfSix();
        shareOfSeven();
        shareOfNobody();
        shareAnotherWhat();
        shareWithoutCommonPart();
        Due.finish();
    }

    private static void sets(PaidWhereMade x, int... want) {
        Due.is("cleared(0)", x.cleared(0), want.length);
        for (int k = 0; k < want.length; k++) {
            Due.is("cleared(" + (10 + k) + ")", x.cleared(10 + k), want[k]);
        }
        Due.is("no set behind the last", x.cleared(10 + want.length), -1);
    }

    /** All open debts are paid ahead of any Sunday if there are none. */
    private static void clearedOfNothing() {
        PaidWhereMade x = Towns.plain(1, 2, 5);
        sets(x);
        x.debt(0, 1, 5, 0);
        sets(x, 1);
        x.sunday();
        sets(x);
    }

    /** "CLEARED (10 open DEBTS at most)": ten on ten spots take ten Sundays, on one spot one. */
    private static void clearedOfTen() {
        PaidWhereMade x = Towns.plain(10, 2, 0);
        for (int s = 0; s < 10; s++) {
            x.debt(s % 2, 1 - s % 2, 5, s);
        }
        sets(x, 512, 256, 128, 64, 32, 16, 8, 4, 2, 1);
        Due.is("cleared(20)", x.cleared(20), -1);
        PaidWhereMade y = Towns.plain(1, 2, 0);
        for (int d = 0; d < 10; d++) {
            y.debt(d % 2, 1 - d % 2, 5, 0);
        }
        sets(y, 1023);
    }

    /** "NONE if one can't be": eleven are too many, till one of them is paid. */
    private static void clearedOfEleven() {
        PaidWhereMade x = Towns.plain(1, 2, 0);
        x.person(0, 5, 0);
        for (int d = 0; d < 10; d++) {
            x.debt(0, 1, 5, 0);
        }
        x.debt(2, 1, 5, 0);
        for (int what : new int[] {0, 1, 10, 19, 20}) {
            Due.is("eleven: cleared(" + what + ")", x.cleared(what), -1);
        }
        Due.is("one is paid", x.sunday(), 1);
        sets(x, 1023);
        Refusing.is("thirty", Towns::full, y -> y.cleared(0), -1);
    }

    /** "NONE if one can't be, or another what." */
    private static void clearedAnotherWhat() {
        for (int what : new int[] {LEAST, LEAST + 9, LEAST + 10, -1, 1, 9, 14, 20, MOST}) {
            Refusing.is("cleared(" + what + ")", Towns::busy, x -> x.cleared(what), -1);
        }
    }

    /** "all that one has in a set being on one SPOT". */
    private static void clearedOnOneSpot() {
        int[][] pairs = {{0, 1, 0, 2}, {0, 1, 2, 0}, {0, 1, 1, 2}, {0, 1, 2, 1}};
        for (int[] p : pairs) {
            PaidWhereMade x = Towns.plain(2, 4, 0);
            x.debt(p[0], p[1], 5, 1);
            x.debt(p[2], p[3], 5, 1);
            sets(x, 3);
            x.debt(3, 0, 5, 0);
            Due.is("one more of 0 elsewhere", x.cleared(0), 2);
            PaidWhereMade y = Towns.plain(2, 4, 0);
            y.debt(p[0], p[1], 5, 0);
            y.debt(p[2], p[3], 5, 1);
            sets(y, 2, 1);
        }
        PaidWhereMade x = Towns.plain(2, 4, 0);
        x.debt(0, 1, 5, 0);
        x.debt(2, 3, 5, 1);
        sets(x, 3);
    }

    /** "COIN, PRICES, THE LAW, ROUNDS not asked". */
    private static void clearedNotAsked() {
        PaidWhereMade x = Towns.plain(1, 2, 0);
        x.spot(99);
        x.set(0, 100);
        x.set(2, 1);
        Feeding.law(x, "bar;");
        x.debt(0, 1, 9999, 1);
        x.debt(1, 0, 9999, 1);
        sets(x, 3);
    }

    /** "that whose first set is the greatest as a number ..., then the second ..". */
    private static void clearedGreatestFirst() {
        PaidWhereMade x = Towns.plain(2, 6, 0);
        x.debt(0, 1, 5, 0);
        x.debt(0, 2, 5, 0);
        x.debt(0, 3, 5, 0);
        x.debt(0, 4, 5, 1);
        // one that counts 8 is more than three that come to 7
        sets(x, 8, 7);
        PaidWhereMade y = Towns.plain(4, 8, 0);
        for (int s = 0; s < 4; s++) {
            y.debt(0, 1 + s, 5, s);
        }
        y.debt(5, 6, 5, 2);
        // the one apart goes with the first
        sets(y, 24, 4, 2, 1);
        y.debt(5, 4, 5, 0);
        // 32 can't go with 16 or 8: 5 and 4 are on spot 0 for it
        sets(y, 36, 24, 2, 1);
    }

    /** "the fewest SUNDAYS" come ahead of the greatest first set. */
    private static void clearedFewestFirst() {
        PaidWhereMade x = Towns.plain(2, 5, 0);
        x.debt(1, 2, 5, 0);
        x.debt(0, 1, 5, 1);
        x.debt(2, 4, 5, 1);
        x.debt(0, 3, 5, 0);
        // 3 and 2 would come to 12, but 1 and 0 can't be on one Sunday then
        sets(x, 9, 6);
    }

    /** "the k-th open DEBT, by number, counts 2 to the k". */
    private static void clearedCountsOpenOnes() {
        PaidWhereMade x = Towns.plain(3, 2, 0);
        x.person(0, 5, 0);
        x.debt(0, 1, 5, 1);
        x.debt(2, 0, 5, 0);
        x.debt(0, 1, 7, 2);
        sets(x, 4, 2, 1);
        Due.is("the middle one is paid", x.sunday(), 1);
        sets(x, 2, 1);
    }

    /** What one question works out is not seen by the next. */
    private static void plansApart() {
        PaidWhereMade x = Towns.plain(3, 3, 0);
        x.set(1, 50);
        x.debt(0, 1, 10, 0);
        x.debt(0, 2, 30, 1);
        for (int again = 0; again < 2; again++) {
            order(x, 0, 45, 1, 0);
            sets(x, 2, 1);
            order(x, 0, 45, 1, 0);
            order(x, 1, 0);
            Due.is("tour", x.tour(0, 7), 27);
            Due.is("share", x.share(1, 7, 2, 0), 6);
            Due.is("tour", x.tour(2, 1), 18);
        }
        PaidWhereMade y = Towns.plain(1, 2, 50);
        y.debt(0, 1, 10, 0);
        order(y, 0, 10, 0);
        y.sunday();
        sets(y);
        PaidWhereMade z = Towns.plain(2, 2, 0);
        z.person(0, 5, 0);
        z.person(0, 0, 0);
        z.debt(2, 0, 5, 0);
        z.debt(0, 1, 9, 1);
        z.debt(2, 3, 9, 1);
        sets(z, 6, 1);
        Due.is("the first one is paid", z.sunday(), 1);
        sets(z, 3);
    }

    private static void order(PaidWhereMade x, int p, long coins, int... want) {
        Due.is("first(" + p + ", 0)", x.first(p, 0), coins);
        for (int i = 0; i < want.length; i++) {
            Due.is("first(" + p + ", " + (10 + i) + ")", x.first(p, 10 + i), want[i]);
        }
        Due.is("none behind the last", x.first(p, 10 + want.length), -1);
    }

    /** "one's own open DEBTS as DEBTOR": none of another, none as creditor, none that is paid. */
    private static void firstOfNothing() {
        PaidWhereMade x = Towns.plain(1, 2, 5);
        order(x, 0, 0);
        x.debt(1, 0, 9, 0);
        order(x, 0, 0);
        order(x, 1, 9, 0);
        x.debt(0, 1, 5, 0);
        order(x, 0, 5, 1);
        x.sunday();
        order(x, 0, 0);
    }

    /** "(8 at most)". */
    private static void firstOfEight() {
        PaidWhereMade x = Towns.plain(1, 3, 0);
        x.set(1, 10);
        for (int d = 0; d < 8; d++) {
            x.debt(0, 1, d + 1, 0);
            x.debt(1, 2, 50, 0);
        }
        x.debt(2, 0, 5, 0);
        // none of them ever grows: they are below 10
        order(x, 0, 36, 0, 2, 4, 6, 8, 10, 12, 14);
        Due.is("first(0, 18)", x.first(0, 18), -1);
    }

    /** "NONE if one can't be": nine are too many, till one of them is paid. */
    private static void firstOfNine() {
        PaidWhereMade x = Towns.plain(1, 2, 0);
        x.person(0, 1, 0);
        for (int d = 0; d < 9; d++) {
            x.debt(2, 1, d == 4 ? 1 : 5, 0);
        }
        for (int what : new int[] {0, 1, 10, 18}) {
            Due.is("nine: first(2, " + what + ")", x.first(2, what), -1);
        }
        order(x, 0, 0);
        Due.is("one is paid", x.sunday(), 1);
        order(x, 2, 40, 0, 1, 2, 3, 5, 6, 7, 8);
    }

    private static void firstOfNobody() {
        for (int p : new int[] {LEAST, -2, -1, 3, 10, MOST}) {
            Refusing.is("first(" + p + ", 0)", Towns::busy, x -> x.first(p, 0), -1);
            Refusing.is("first(" + p + ", 10)", Towns::busy, x -> x.first(p, 10), -1);
        }
        PaidWhereMade x = Towns.full();
        Due.is("first(9, 0)", x.first(9, 0), 10 + 20 + 30);
        Due.is("first(10, 0)", x.first(10, 0), -1);
    }

    /** "NONE if one can't be, or another what." */
    private static void firstAnotherWhat() {
        for (int what : new int[] {LEAST, LEAST + 10, -1, 1, 9, 13, 18, 20, MOST}) {
            Refusing.is("first(0, " + what + ")", Towns::busy, x -> x.first(0, what), -1);
        }
    }

    /** "one a SUNDAY from the next on, each grown by RATE once for each SUNDAY ahead of that". */
    private static void firstGrowsAhead() {
        PaidWhereMade x = Towns.plain(2, 2, 0);
        x.set(1, 50);
        x.set(3, 52);
        x.debt(0, 1, 11, 1);
        order(x, 0, 11, 0);
        x.debt(0, 1, 3, 0);
        // 11 + 4 or 3 + 16
        order(x, 0, 15, 0, 1);
        x.debt(0, 1, 3, 0);
        // 3, 4, 6
        order(x, 0, 11 + 4 + 6, 0, 1, 2);
        x.set(1, 99);
        // 3, 5, 9
        order(x, 0, 11 + 5 + 9, 0, 1, 2);
        x.set(1, 0);
        order(x, 0, 17, 0, 1, 2);
    }

    /** "of several the first (DEBT by DEBT)". */
    private static void firstOfSeveral() {
        PaidWhereMade x = Towns.plain(1, 2, 0);
        x.set(1, 50);
        x.debt(0, 1, 1, 0);
        x.debt(0, 1, 2, 0);
        x.debt(0, 1, 1, 0);
        x.debt(0, 1, 2, 0);
        // 1 never grows, 2 grows to 3 and 4: both of them first
        order(x, 0, 1 + 1 + 2 + 3, 1, 3, 0, 2);
        x.set(1, 0);
        order(x, 0, 6, 0, 1, 2, 3);
    }

    /** FIRST names no most: eight of 99999 by 99. */
    private static void firstAtTheMost() {
        PaidWhereMade x = Towns.plain(2, 2, 0);
        x.set(1, 99);
        x.set(3, 1);
        for (int d = 0; d < 8; d++) {
            x.debt(0, 1, 9999, 1);
        }
        x.pass(5);
        long sum = 0;
        long coins = 99999;
        for (int i = 0; i < 8; i++) {
            sum += coins;
            coins += coins * 99 / 100;
        }
        order(x, 0, sum, 0, 1, 2, 3, 4, 5, 6, 7);
    }

    /** "over a set of SPOTS (told as bits; that one may be in it)". */
    private static void tourOfNothing() {
        PaidWhereMade x = Towns.plain(10, 0, 0);
        for (int s = 0; s < 10; s++) {
            Due.is("over none", x.tour(s, 0), 0);
            Due.is("over itself", x.tour(s, 1 << s), 0);
            Due.is("over one more", x.tour(s, 1 << s | 1 << (s + 1) % 10), 18);
            Due.is("over the other alone", x.tour(s, 1 << (s + 1) % 10), 18);
        }
        PaidWhereMade y = Towns.plain(1, 0, 0);
        Due.is("one spot alone", y.tour(0, 1), 0);
        Due.is("one spot alone", y.tour(0, 2), -1);
    }

    private static void tourOfAllTen() {
        PaidWhereMade x = Towns.plain(10, 0, 0);
        Due.is("ten ways of 9", x.tour(0, 1023), 90);
        Due.is("ten ways of 9", x.tour(9, 1023), 90);
        Due.is("without itself told", x.tour(9, 511), 90);
        for (int a = 0; a < 10; a++) {
            for (int b = 0; b < a; b++) {
                x.way(a, b, 99);
            }
        }
        Due.is("ten ways of 99", x.tour(5, 1023), 990);
        for (int s = 0; s < 10; s++) {
            x.way(s * 3 % 10, (s + 1) * 3 % 10, s);
        }
        Due.is("one round of less", x.tour(4, 1023), 45);
        x.way(0, 3, 99);
        Due.is("a way of 99 in it", x.tour(4, 1023), 144);
    }

    /** "NONE if one can't be (a SPOT that is none)." */
    private static void tourOfNoSpot() {
        for (int from : new int[] {LEAST, -1, 3, 10, MOST}) {
            Refusing.is("tour(" + from + ", 1)", Towns::busy, x -> x.tour(from, 1), -1);
            Refusing.is("tour(" + from + ", 0)", Towns::busy, x -> x.tour(from, 0), -1);
        }
        for (int set : new int[] {LEAST, LEAST + 1, -8, -1, 8, 9, 15, 1 << 10, 1 << 30, MOST}) {
            Refusing.is("tour(0, " + set + ")", Towns::busy, x -> x.tour(0, set), -1);
        }
        Due.is("all three", Towns.busy().tour(0, 7), 12 + 30 + 9);
        for (int set : new int[] {-1, 1024, 1025, 2047}) {
            Refusing.is("of ten tour(0, " + set + ")", Towns::full, x -> x.tour(0, set), -1);
        }
    }

    /** "each going from one of these to another one by the WAY of both alone". */
    private static void tourByTheWayAlone() {
        PaidWhereMade x = Towns.plain(3, 0, 0);
        x.way(0, 1, 1);
        x.way(1, 2, 1);
        x.way(0, 2, 99);
        Due.is("not over another one", x.tour(0, 4), 198);
        Due.is("not twice over one", x.tour(0, 6), 101);
        Due.is("from the middle", x.tour(1, 5), 101);
    }

    private static void share(PaidWhereMade x, int from, int set, int p, int above, int below) {
        String call = "share(" + from + ", " + set + ", " + p + ", ";
        Due.is(call + "0)", x.share(from, set, p, 0), above);
        Due.is(call + "1)", x.share(from, set, p, 1), below);
    }

    /** One alone has all of it; one who lives at the spot has nothing of it. */
    private static void shareOfOne() {
        PaidWhereMade x = Towns.plain(2, 2, 0);
        x.person(1, 0, 0);
        share(x, 0, 4, 2, 18, 1);
        share(x, 0, 1, 0, 0, 1);
        share(x, 1, 4, 2, 0, 1);
        share(x, 0, 7, 2, 18, 1);
        share(x, 0, 7, 1, 0, 1);
        // two who live on one spot have half of it each
        share(x, 1, 3, 0, 9, 1);
        x.way(0, 1, 0);
        share(x, 0, 4, 2, 0, 1);
        x.way(0, 1, 99);
        share(x, 0, 4, 2, 198, 1);
    }

    /** "A COACH for a set of PEOPLE (6 at most)". */
    private static void shareOfSix() {
        PaidWhereMade x = Towns.plain(10, 0, 0);
        for (int p = 0; p < 10; p++) {
            x.person(p, 0, 0);
        }
        for (int p = 1; p < 7; p++) {
            // seven ways of 9 by six
            share(x, 0, 126, p, 21, 2);
        }
        share(x, 0, 0b1111110000, 9, 21, 2);
        share(x, 0, 0b1000011111, 9, 54, 5);
        PaidWhereMade y = Towns.plain(2, 10, 0);
        share(y, 1, 63, 5, 3, 1);
        share(y, 1, 31, 4, 18, 5);
        share(y, 1, 15, 0, 9, 2);
    }

    /** "NONE if one can't be (not in the set, more than six)". */
    private static void shareOfSeven() {
        PaidWhereMade x = Towns.plain(2, 10, 0);
        for (int what = 0; what < 2; what++) {
            Due.is("seven", x.share(1, 127, 0, what), -1);
            Due.is("seven", x.share(1, 0b1111111000, 9, what), -1);
            Due.is("ten", x.share(1, 1023, 0, what), -1);
        }
        Refusing.is("seven of ten", Towns::full, y -> y.share(1, 127, 0, 0), -1);
    }

    private static void shareOfNobody() {
        for (int from : new int[] {LEAST, -1, 3, 10, MOST}) {
            Refusing.is("share from " + from, Towns::busy, x -> x.share(from, 7, 0, 1), -1);
        }
        for (int set : new int[] {LEAST, LEAST + 1, -1, 0, 2, 6, 9, 15, 1025, MOST}) {
            Refusing.is("share of 0 in " + set, Towns::busy, x -> x.share(0, set, 0, 1), -1);
        }
        for (int p : new int[] {LEAST, -1, 3, 31, 32, 33, MOST}) {
            Refusing.is("share of " + p, Towns::busy, x -> x.share(0, 7, p, 1), -1);
        }
        Due.is("one of three", Towns.busy().share(0, 7, 0, 1), 1);
        for (int set : new int[] {1025, -1023}) {
            Refusing.is("of ten share of 0 in " + set, Towns::full, x -> x.share(0, set, 0, 1), -1);
        }
    }

    /** "or another what". */
    private static void shareAnotherWhat() {
        for (int what : new int[] {LEAST, -1, 2, 10, MOST}) {
            Refusing.is("share what " + what, Towns::busy, x -> x.share(0, 7, 0, what), -1);
        }
    }

    /** "as that, without a common part": the sign stands above. */
    private static void shareWithoutCommonPart() {
        PaidWhereMade x = Towns.plain(3, 0, 0);
        x.person(1, 0, 0);
        x.person(2, 0, 0);
        x.way(0, 1, 1);
        x.way(0, 2, 99);
        x.way(1, 2, 0);
        // 2 alone, 198 alone, 100 for both: (2 - 98) and (198 + 98) by 2
        share(x, 0, 3, 0, -48, 1);
        share(x, 0, 3, 1, 148, 1);
        x.way(1, 2, 1);
        // 101 for both: (2 - 97) and (198 + 99) by 2
        share(x, 0, 3, 0, -95, 2);
        share(x, 0, 3, 1, 297, 2);
        x.way(1, 2, 98);
        // 198 for both
        share(x, 0, 3, 0, 1, 1);
        x.way(1, 2, 95);
        // 195 for both: 2 - 3 is -1, by 2
        share(x, 0, 3, 0, -1, 2);
    }
}
