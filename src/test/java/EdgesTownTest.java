/** Promises 1 to 8 with part 1 of the terms: a test of its own for each sentence that names a boundary. */
public final class EdgesTownTest {
    private static final int LEAST = Integer.MIN_VALUE;
    private static final int MOST = Integer.MAX_VALUE;
    private static final int[] STRANGE = {LEAST, LEAST + 1, -1025, -100, -11, -2, 31, 32, 64, 1 << 20, MOST - 1, MOST};

    public static void main(String[] args) {
        nobodyThere();
        stateIsAnInt();
        priceFrom0To99();
        tenSpots();
        wayFrom0To99();
        wayIs9AtFirst();
        wayOfUnlikeSpots();
        homeIsASpot();
        coinAndAge();
        tenPeople();
        debtorAndCreditorUnlike();
        coinsFrom1To9999();
        debtOnASpot();
        thirtyDebts();
        madeOnTheSundayOfNow();
        settingsAtFirst();
        settingsFromLeastToMost();
        anotherSetting();
        goalIsASpot();
        goalIsHomeAtFirstAndAgain();
        strangeNumbers();
        Due.finish();
    }

    /** "Nobody there." */
    private static void nobodyThere() {
        PaidWhereMade x = new PaidWhereMade();
        for (int what = 0; what < 10; what++) {
            Due.is("new look(" + what + ")", x.look(what), 0);
            Due.is("new of(0, " + what + ")", x.of(0, what), -2);
            Due.is("new owed(0, " + what + ")", x.owed(0, what), -2);
        }
        Due.is("new person", x.person(0, 0, 0), -1);
        Due.is("new debt", x.debt(0, 1, 1, 0), -1);
        Due.is("new goal", x.goal(0, 0), false);
        Due.is("new way", x.way(0, 1, 1), false);
        Due.is("new first", x.first(0, 0), -1);
        Due.is("new tour", x.tour(0, 0), -1);
        Due.is("new share", x.share(0, 1, 0, 0), -1);
        Due.is("new chance", x.chance(0, 0, 0), false);
        Due.is("new waiting", x.waiting(0, 1, 0), -1);
        Due.is("new line", x.line(0, 0, -1, 0), -1);
        Due.is("new wrong", x.wrong(0), 0);
        Due.is("new cleared(0)", x.cleared(0), 0);
        Due.is("new cleared(10)", x.cleared(10), -1);
        Due.is("new image(false)", x.image(false), false);
        Due.is("new fault(0)", x.fault(0), 0);
        Due.is("new fault(1)", x.fault(1), -1);
        Due.is("new end(0)", x.end(0), true);
        Due.is("new end(1)", x.end(1), false);
        Due.is("new text()", x.text(), 0);
        Due.is("new sunday()", x.sunday(), 0);
        Due.is("new pass(400)", x.pass(400), 0);
    }

    /** "STATE of draws (an int, 0 at first)"; "STATE is told: what it was." */
    private static void stateIsAnInt() {
        PaidWhereMade x = new PaidWhereMade();
        int before = 0;
        for (int v : new int[] {LEAST, -1, 0, 1, MOST, 7}) {
            Due.is("state(" + v + ")", x.state(v), before);
            Due.is("look(6)", x.look(6), v);
            before = v;
        }
    }

    /** "a PRICE 0 .. 99 of standing there". */
    private static void priceFrom0To99() {
        for (int price : new int[] {LEAST, -1, 100, 101, MOST}) {
            Refusing.is("spot(" + price + ")", Towns::busy, x -> x.spot(price), -1);
        }
        PaidWhereMade x = Towns.plain(1, 0, 0);
        Due.is("spot(0)", x.spot(0), 1);
        Due.is("spot(99)", x.spot(99), 2);
        x.person(0, 0, 0);
        x.person(0, 98, 0);
        x.person(0, 99, 0);
        x.goal(0, 1);
        x.goal(1, 2);
        x.goal(2, 2);
        x.sunday();
        Due.is("0 of a price of 0", x.of(0, 4), 1);
        Due.is("98 of 99", x.of(1, 4), 0);
        Due.is("99 of 99", x.of(2, 4), 2);
        Due.is("99 of 99", x.of(2, 1), 0);
    }

    /** "SPOTS 0 .. 9 as they come"; "NONE if one can't be, or there are ten." */
    private static void tenSpots() {
        PaidWhereMade x = new PaidWhereMade();
        for (int s = 0; s < 10; s++) {
            Due.is("refused ones take no number", x.spot(-1), -1);
            Due.is("spot", x.spot(99 - s), s);
        }
        Refusing.is("an eleventh spot", Towns::full, y -> y.spot(0), -1);
        Refusing.is("an eleventh spot that can't be", Towns::full, y -> y.spot(100), -1);
    }

    /** "WAY of two SPOTS: 0 .. 99 miles, either way". */
    private static void wayFrom0To99() {
        for (int miles : new int[] {LEAST, -1, 100, MOST}) {
            Refusing.isFalse("way of " + miles, Towns::busy, x -> x.way(0, 1, miles));
        }
        PaidWhereMade x = Towns.plain(10, 0, 0);
        Due.is("way(0, 9, 0)", x.way(0, 9, 0), true);
        Due.is("0 miles", x.tour(0, 1 << 9), 0);
        Due.is("0 miles back", x.tour(9, 1), 0);
        Due.is("way(9, 0, 99)", x.way(9, 0, 99), true);
        Due.is("99 miles", x.tour(0, 1 << 9), 198);
        Due.is("99 miles back", x.tour(9, 1), 198);
    }

    /** "(9 at first; 0 of a SPOT to itself)". */
    private static void wayIs9AtFirst() {
        PaidWhereMade x = new PaidWhereMade();
        for (int s = 0; s < 10; s++) {
            x.spot(0);
            Due.is("0 to itself", x.tour(s, 1 << s), 0);
            for (int t = 0; t < s; t++) {
                Due.is("9 at first", x.tour(t, 1 << s), 18);
            }
        }
        x.person(4, 0, 0);
        x.goal(0, 4);
        x.sunday();
        Due.is("0 miles to one's own home", x.look(5), 0);
    }

    /** "WAY of two unlike SPOTS: true; false if one can't be." */
    private static void wayOfUnlikeSpots() {
        for (int s = -1; s < 4; s++) {
            int same = s;
            Refusing.isFalse("way of " + s + " to itself", Towns::busy, x -> x.way(same, same, 5));
        }
        for (int s : new int[] {LEAST, -1, 3, 9, 10, MOST}) {
            Refusing.isFalse("way from " + s, Towns::busy, x -> x.way(s, 1, 5));
            Refusing.isFalse("way to " + s, Towns::busy, x -> x.way(1, s, 5));
        }
        for (int s : new int[] {-1, 10}) {
            Refusing.isFalse("way from " + s + " of ten", Towns::full, x -> x.way(s, 1, 5));
            Refusing.isFalse("way to " + s + " of ten", Towns::full, x -> x.way(1, s, 5));
        }
    }

    /** "HOME (a SPOT)". */
    private static void homeIsASpot() {
        for (int home : new int[] {LEAST, -1, 3, 10, MOST}) {
            Refusing.is("home " + home, Towns::busy, x -> x.person(home, 5, 5), -1);
        }
        PaidWhereMade x = Towns.plain(10, 0, 0);
        Due.is("home 0", x.person(0, 5, 5), 0);
        Due.is("home 9", x.person(9, 5, 5), 1);
        Due.is("home 10", x.person(10, 5, 5), -1);
        Due.is("of(0, 0)", x.of(0, 0), 0);
        Due.is("of(1, 0)", x.of(1, 0), 9);
    }

    /** "COIN 0 .. 99999, AGE 0 .. 99." */
    private static void coinAndAge() {
        for (int coin : new int[] {LEAST, -1, 100000, MOST}) {
            Refusing.is("coin " + coin, Towns::busy, x -> x.person(0, coin, 5), -1);
        }
        for (int age : new int[] {LEAST, -1, 100, MOST}) {
            Refusing.is("age " + age, Towns::busy, x -> x.person(0, 5, age), -1);
        }
        PaidWhereMade x = Towns.plain(1, 0, 0);
        Due.is("the least", x.person(0, 0, 0), 0);
        Due.is("the most", x.person(0, 99999, 99), 1);
        Due.is("of(0, 1)", x.of(0, 1), 0);
        Due.is("of(0, 2)", x.of(0, 2), 0);
        Due.is("of(1, 1)", x.of(1, 1), 99999);
        Due.is("of(1, 2)", x.of(1, 2), 99);
    }

    /** "PEOPLE 0 .. 9 as they come"; "NONE if one can't be, or there are ten." */
    private static void tenPeople() {
        PaidWhereMade x = Towns.plain(1, 0, 0);
        for (int p = 0; p < 10; p++) {
            Due.is("refused ones take no number", x.person(1, 0, 0), -1);
            Due.is("person", x.person(0, p, p), p);
        }
        Refusing.is("an eleventh person", Towns::full, y -> y.person(0, 0, 0), -1);
    }

    /** "DEBTOR, CREDITOR (unlike)". */
    private static void debtorAndCreditorUnlike() {
        for (int p = 0; p < 3; p++) {
            int one = p;
            Refusing.is("debt to oneself " + p, Towns::busy, x -> x.debt(one, one, 5, 0), -1);
        }
        for (int p : new int[] {LEAST, -1, 3, 10, MOST}) {
            Refusing.is("debtor " + p, Towns::busy, x -> x.debt(p, 1, 5, 0), -1);
            Refusing.is("creditor " + p, Towns::busy, x -> x.debt(1, p, 5, 0), -1);
            Refusing.is("both " + p, Towns::busy, x -> x.debt(p, p, 5, 0), -1);
        }
        PaidWhereMade x = Towns.plain(1, 10, 0);
        Due.is("debt(0, 9, ..)", x.debt(0, 9, 5, 0), 0);
        Due.is("debt(9, 0, ..)", x.debt(9, 0, 5, 0), 1);
        Due.is("owed(1, 0)", x.owed(1, 0), 9);
        Due.is("owed(1, 1)", x.owed(1, 1), 0);
    }

    /** "COINS 1 .. 9999". */
    private static void coinsFrom1To9999() {
        for (int coins : new int[] {LEAST, -1, 0, 10000, MOST}) {
            Refusing.is("debt of " + coins, Towns::busy, x -> x.debt(0, 1, coins, 0), -1);
        }
        PaidWhereMade x = Towns.plain(1, 2, 0);
        x.debt(0, 1, 1, 0);
        x.debt(0, 1, 9999, 0);
        Due.is("1 coin", x.owed(0, 2), 1);
        Due.is("9999 coins", x.owed(1, 2), 9999);
    }

    /** "COINS 1 .. 9999, a SPOT". */
    private static void debtOnASpot() {
        for (int spot : new int[] {LEAST, -1, 3, 10, MOST}) {
            Refusing.is("debt on " + spot, Towns::busy, x -> x.debt(0, 1, 5, spot), -1);
        }
        PaidWhereMade x = Towns.plain(10, 2, 0);
        x.debt(0, 1, 5, 0);
        x.debt(0, 1, 5, 9);
        Due.is("owed(0, 3)", x.owed(0, 3), 0);
        Due.is("owed(1, 3)", x.owed(1, 3), 9);
        Due.is("debt on 10 of ten", x.debt(0, 1, 5, 10), -1);
    }

    /** "DEBTS 0 .. 29 as they come"; "NONE if one can't be, or there are thirty." */
    private static void thirtyDebts() {
        PaidWhereMade x = Towns.plain(1, 2, 99);
        for (int d = 0; d < 30; d++) {
            Due.is("refused ones take no number", x.debt(0, 0, 1, 0), -1);
            Due.is("debt", x.debt(0, 1, 1, 0), d);
        }
        Due.is("all paid", x.sunday(), 30);
        Due.is("paid ones count too", x.debt(0, 1, 1, 0), -1);
        Refusing.is("a thirty-first debt", Towns::full, y -> y.debt(0, 1, 1, 0), -1);
    }

    /** "made on the SUNDAY of now", which is 0 .. 9999. */
    private static void madeOnTheSundayOfNow() {
        PaidWhereMade x = Towns.last();
        Due.is("look(4)", x.look(4), 9999);
        Due.is("made on the first", x.owed(0, 4), 0);
        Due.is("made on the last", x.owed(x.debt(0, 1, 5, 0), 4), 9999);
        Due.is("made on the second", x.owed(3, 4), 1);
    }

    /** "(0 each at first), TURN 1 .. 52 (..; 4 at first)". */
    private static void settingsAtFirst() {
        PaidWhereMade x = new PaidWhereMade();
        int[] atFirst = {0, 0, 0, 4};
        for (int k = 0; k < 4; k++) {
            Due.is("look(" + (20 + k) + ")", x.look(20 + k), atFirst[k]);
        }
    }

    /** "FOG 0 .. 100 (of a hundred), RATE 0 .. 99 (of a hundred), CANCEL 0, 1", "TURN 1 .. 52". */
    private static void settingsFromLeastToMost() {
        int[] least = {0, 0, 0, 1};
        int[] most = {100, 99, 1, 52};
        for (int k = 0; k < 4; k++) {
            PaidWhereMade x = new PaidWhereMade();
            Due.is("the most of " + k, x.set(k, most[k]), true);
            Due.is("the most of " + k, x.look(20 + k), most[k]);
            Due.is("the least of " + k, x.set(k, least[k]), true);
            Due.is("the least of " + k, x.look(20 + k), least[k]);
            for (int v : new int[] {LEAST, least[k] - 1, most[k] + 1, MOST}) {
                int what = k;
                Refusing.isFalse("set(" + k + ", " + v + ")", Towns::busy, y -> y.set(what, v));
            }
        }
    }

    /** "false if one can't be, or another what." */
    private static void anotherSetting() {
        for (int what : new int[] {LEAST, -1, 4, 5, 20, 24, MOST}) {
            Refusing.isFalse("set(" + what + ", 1)", Towns::busy, x -> x.set(what, 1));
        }
    }

    /** "GOAL of one: true; false if one can't be." */
    private static void goalIsASpot() {
        for (int v : new int[] {LEAST, -1, 3, 10, MOST}) {
            Refusing.isFalse("goal of " + v, Towns::busy, x -> x.goal(v, 1));
            Refusing.isFalse("goal on " + v, Towns::busy, x -> x.goal(1, v));
        }
        PaidWhereMade x = Towns.plain(10, 10, 0);
        Due.is("goal(9, 9)", x.goal(9, 9), true);
        Due.is("of(9, 3)", x.of(9, 3), 9);
        Due.is("goal(0, 9)", x.goal(0, 9), true);
        Due.is("home again", x.goal(0, 0), true);
        Due.is("of(0, 3)", x.of(0, 3), 0);
    }

    /** "Each of PEOPLE has a GOAL for the next SUNDAY (a SPOT; HOME at first, and again behind each SUNDAY)." */
    private static void goalIsHomeAtFirstAndAgain() {
        PaidWhereMade x = Towns.plain(2, 0, 0);
        x.spot(9);
        x.person(1, 8, 0);
        Due.is("home at first", x.of(0, 3), 1);
        x.goal(0, 0);
        x.sunday();
        Due.is("behind a Sunday elsewhere", x.of(0, 3), 1);
        x.goal(0, 2);
        x.sunday();
        Due.is("too dear", x.of(0, 4), 1);
        Due.is("behind a Sunday that was too dear", x.of(0, 3), 1);
        x.set(0, 100);
        x.goal(0, 0);
        x.sunday();
        Due.is("behind fog", x.of(0, 3), 1);
        x.goal(0, 0);
        x.pass(1);
        Due.is("behind pass()", x.of(0, 3), 1);
    }

    private static void strangeNumbers() {
        for (int v : STRANGE) {
            PaidWhereMade x = Towns.busy();
            Due.is("spot " + v, x.spot(v < 0 || v > 99 ? v : -1), -1);
            Due.is("way " + v, x.way(v, 0, 1) || x.way(0, v, 1) || x.way(v, v, 1), false);
            Due.is("person " + v, x.person(v, 0, 0), -1);
            Due.is("debt " + v, x.debt(v, 0, 1, 0), -1);
            Due.is("debt " + v, x.debt(0, v, 1, 0), -1);
            Due.is("debt " + v, x.debt(0, 1, 1, v), -1);
            Due.is("goal " + v, x.goal(v, 0) || x.goal(0, v), false);
            Due.is("set " + v, x.set(v, 1), false);
            Due.is("look(1)", x.look(1), 3);
            Due.is("look(2)", x.look(2), 4);
        }
    }
}
