/** Promises 13 to 16 with the head and part 2 of the terms: a test of its own for each sentence with a boundary. */
public final class EdgesSundayTest {
    private static final int LEAST = Integer.MIN_VALUE;
    private static final int MOST = Integer.MAX_VALUE;
    /** What the draws make of STATE 0, one by one. */
    private static final int[] STATES = {0x3C6EF35F, 0x47502932, 0xD1CCF6E9, 0xAAF95334, 0x6252E503, 0x9F2EC686,
        0x57FE6C2D, 0xA3D95FA8, 0x81FDBEE7, 0x94F0AF1A};
    private static final int[] DRAWN = {63, 77, 94, 47, 49, 98, 64, 15, 2, 43};

    public static void main(String[] args) {
        drawsWrap();
        drawsWithoutSign();
        noDrawWithoutFog();
        belowFog();
        fogKeepsAllAtHome();
        coinAtLeastPrice();
        homeCostsNothing();
        milesThereAndBack();
        roundOnlyWithCancel();
        roundOfTwo();
        roundOfTen();
        roundWhereAllStand();
        roundOnOneSpot();
        nobodyTwice();
        fewestDebtsFirst();
        firstRowOfSeveral();
        asLongAsThereIsOne();
        spotBySpot();
        lessByTheLeast();
        paidByNumber();
        hasTheCoins();
        bothStandOnItsSpot();
        ageIsAMultipleOfTurn();
        quotientsGoDownwards();
        at99999();
        onlyOpenDebtsGrow();
        sundayAbove9999();
        passFrom1To400();
        passBeyond9999();
        passIsAtHome();
        ofNoneSuch();
        ofBeforeAndBehind();
        owedNoneSuch();
        owedPaid();
        owedNow();
        Due.finish();
    }

    private static void due(PaidWhereMade x, String name, int what, int... want) {
        for (int d = 0; d < want.length; d++) {
            Due.is(name + ": owed(" + d + ", " + what + ")", x.owed(d, what), want[d]);
        }
    }

    /** "it becomes 1664525 times itself + 1013904223 (ints, which wrap)". */
    private static void drawsWrap() {
        PaidWhereMade x = new PaidWhereMade();
        x.set(0, 1);
        for (int i = 0; i < STATES.length; i++) {
            x.sunday();
            Due.is("draw " + i, x.look(6), STATES[i]);
        }
        int[] before = {-1, LEAST, MOST, 1 << 30};
        int[] behind = {1012239698, -1133579425, -1135243950, 2087646047};
        for (int i = 0; i < before.length; i++) {
            x.state(before[i]);
            x.pass(1);
            Due.is("draw behind " + before[i], x.look(6), behind[i]);
        }
    }

    /** "then it is its highest 24 bits (without sign) modulo m". */
    private static void drawsWithoutSign() {
        for (int i = 0; i < STATES.length; i++) {
            Due.is("fog of exactly " + DRAWN[i], fogAt(i, DRAWN[i]), 0);
            Due.is("fog of one more than " + DRAWN[i], fogAt(i, DRAWN[i] + 1), 1);
        }
    }

    private static int fogAt(int draw, int fog) {
        return fogFrom(draw == 0 ? 0 : STATES[draw - 1], fog);
    }

    private static int fogFrom(int state, int fog) {
        PaidWhereMade x = new PaidWhereMade();
        x.state(state);
        x.set(0, fog);
        x.sunday();
        return x.look(9);
    }

    /** "a DRAW of 100, if FOG is above 0". */
    private static void noDrawWithoutFog() {
        PaidWhereMade x = new PaidWhereMade();
        x.sunday();
        x.pass(400);
        Due.is("no draw", x.look(6), 0);
        x.set(0, 1);
        x.sunday();
        Due.is("one draw", x.look(6), STATES[0]);
        x.set(0, 100);
        x.pass(3);
        Due.is("a draw for each Sunday that passes", x.look(6), STATES[3]);
        x.set(0, 0);
        x.pass(3);
        Due.is("no draw", x.look(6), STATES[3]);
        Due.is("no fog", x.look(9), 0);
    }

    /** "below FOG all stay at HOME"; look(9) "1 if there was FOG on the latest SUNDAY, else 0". */
    private static void belowFog() {
        PaidWhereMade x = Towns.plain(2, 1, 0);
        x.set(0, 64);
        Due.is("ahead of any", x.look(9), 0);
        for (int i = 0; i < STATES.length; i++) {
            x.goal(0, 1);
            x.sunday();
            Due.is("Sunday " + i, x.look(9), DRAWN[i] < 64 ? 1 : 0);
            Due.is("Sunday " + i, x.of(0, 4), DRAWN[i] < 64 ? 0 : 1);
        }
        x.state(0);
        x.pass(2);
        Due.is("the latest of two", x.look(9), 0);
        x.pass(2);
        Due.is("the latest of two", x.look(9), 1);
        // STATE 701 draws a 0 and 749 a 99, both by a state below 0
        Due.is("a 0 is below 1", fogFrom(701, 1), 1);
        Due.is("a 0 without fog", fogFrom(701, 0), 0);
        Due.is("a 99 is not below 99", fogFrom(749, 99), 0);
        Due.is("a 99 is below 100", fogFrom(749, 100), 1);
    }

    /** In fog nobody pays a price or walks; those at home together pay their debts. */
    private static void fogKeepsAllAtHome() {
        PaidWhereMade x = Towns.plain(1, 2, 50);
        x.spot(5);
        x.debt(0, 1, 7, 0);
        x.debt(0, 1, 8, 1);
        x.set(0, 100);
        x.goal(0, 1);
        x.goal(1, 1);
        Due.is("sunday()", x.sunday(), 1);
        Due.is("at home", x.of(0, 4) + x.of(1, 4), 0);
        Due.is("no price", x.of(0, 1), 43);
        Due.is("no price", x.of(1, 1), 57);
        Due.is("no miles", x.look(5), 0);
        due(x, "fog", 6, 1, 0);
        Due.is("one Sunday more", x.look(4), 1);
    }

    /** "each stands at his GOAL, if his COIN is at least PRICE .. he pays that; else he stays at HOME". */
    private static void coinAtLeastPrice() {
        PaidWhereMade x = Towns.plain(1, 0, 0);
        x.spot(10);
        x.person(0, 9, 0);
        x.person(0, 10, 0);
        x.person(0, 11, 0);
        for (int p = 0; p < 3; p++) {
            x.goal(p, 1);
        }
        x.sunday();
        int[] stood = {0, 1, 1};
        int[] coin = {9, 0, 1};
        for (int p = 0; p < 3; p++) {
            Due.is("of(" + p + ", 4)", x.of(p, 4), stood[p]);
            Due.is("of(" + p + ", 1)", x.of(p, 1), coin[p]);
        }
        Due.is("miles of two", x.look(5), 36);
        PaidWhereMade y = Towns.plain(1, 0, 0);
        y.spot(10);
        y.person(0, 19, 0);
        y.person(1, 0, 0);
        y.debt(0, 1, 10, 1);
        y.goal(0, 1);
        Due.is("the price is paid ahead of the debt", y.sunday(), 0);
        Due.is("9 are left", y.of(0, 1), 9);
    }

    /** "(0 for who is at HOME there)", "PRICE (0, if that is his HOME)". */
    private static void homeCostsNothing() {
        PaidWhereMade x = new PaidWhereMade();
        x.spot(99);
        x.spot(99);
        x.person(0, 0, 0);
        x.person(1, 99, 0);
        x.goal(0, 0);
        x.sunday();
        Due.is("at home with nothing", x.of(0, 4), 0);
        Due.is("at home with 99", x.of(1, 1), 99);
        x.goal(1, 0);
        x.sunday();
        Due.is("at another's home", x.of(1, 4), 0);
        Due.is("at another's home", x.of(1, 1), 0);
        x.sunday();
        Due.is("the way home costs nothing", x.of(1, 4), 1);
    }

    /** "MILES: WAYS from HOME and back, of all added up over all SUNDAYS." */
    private static void milesThereAndBack() {
        PaidWhereMade x = Towns.plain(3, 2, 0);
        x.way(0, 1, 0);
        x.way(0, 2, 99);
        x.goal(0, 1);
        x.sunday();
        Due.is("0 there and back", x.look(5), 0);
        x.goal(0, 2);
        x.goal(1, 2);
        x.sunday();
        Due.is("99 there and back, twice", x.look(5), 396);
        x.way(0, 2, 1);
        x.sunday();
        Due.is("as they were then", x.look(5), 396);
        x.goal(0, 2);
        x.sunday();
        Due.is("added up", x.look(5), 398);
        x.pass(400);
        Due.is("none at home", x.look(5), 398);
    }

    private static PaidWhereMade ring(int people, int coins) {
        PaidWhereMade x = Towns.plain(2, people, 0);
        for (int p = 0; p < people; p++) {
            x.debt(p, (p + 1) % people, coins, 0);
        }
        return x;
    }

    /** "Then, if CANCEL is 1". */
    private static void roundOnlyWithCancel() {
        PaidWhereMade x = ring(3, 5);
        Due.is("CANCEL 0", x.sunday(), 0);
        due(x, "CANCEL 0", 2, 5, 5, 5);
        x.set(2, 1);
        Due.is("CANCEL 1", x.sunday(), 3);
        x.debt(0, 1, 5, 0);
        x.debt(1, 0, 5, 0);
        x.set(2, 0);
        Due.is("CANCEL 0 again", x.sunday(), 0);
    }

    /** The least round has two debts; one alone, or two the same way, are none. */
    private static void roundOfTwo() {
        PaidWhereMade x = Towns.plain(1, 2, 0);
        x.set(2, 1);
        x.debt(0, 1, 5, 0);
        Due.is("one alone", x.sunday(), 0);
        x.debt(0, 1, 6, 0);
        Due.is("two the same way", x.sunday(), 0);
        x.debt(1, 0, 5, 0);
        Due.is("there and back", x.sunday(), 2);
        due(x, "two", 6, 2, 0, 2);
        due(x, "two", 2, 0, 6, 0);
        due(x, "two", 5, 2, -1, 2);
    }

    /** All ten in one round, and a row that does not close. */
    private static void roundOfTen() {
        PaidWhereMade x = ring(10, 7);
        x.set(2, 1);
        Due.is("all ten", x.sunday(), 10);
        Due.is("look(3)", x.look(3), 0);
        PaidWhereMade y = Towns.plain(1, 10, 0);
        y.set(2, 1);
        for (int p = 0; p < 9; p++) {
            y.debt(p, p + 1, 7, 0);
        }
        Due.is("a row that does not close", y.sunday(), 0);
        y.debt(9, 1, 7, 0);
        Due.is("nine of them", y.sunday(), 9);
        Due.is("left", y.owed(0, 6), 0);
    }

    /** "all of whom stand there". */
    private static void roundWhereAllStand() {
        for (int away = 0; away < 4; away++) {
            PaidWhereMade x = ring(4, 5);
            x.set(2, 1);
            x.goal(away, 1);
            Due.is("without " + away, x.sunday(), 0);
            due(x, "without " + away, 2, 5, 5, 5, 5);
            Due.is("with him", x.sunday(), 4);
        }
        PaidWhereMade x = ring(2, 5);
        x.set(2, 1);
        x.goal(0, 1);
        x.goal(1, 1);
        Due.is("all there, but not where it was made", x.sunday(), 0);
    }

    /** "open DEBTS made there". */
    private static void roundOnOneSpot() {
        PaidWhereMade x = Towns.plain(2, 2, 0);
        x.set(2, 1);
        x.debt(0, 1, 5, 0);
        x.debt(1, 0, 5, 1);
        Due.is("on two spots", x.sunday(), 0);
        x.goal(0, 1);
        x.goal(1, 1);
        Due.is("on the other one", x.sunday(), 0);
        PaidWhereMade y = Towns.plain(1, 2, 0);
        y.person(0, 5, 0);
        y.debt(2, 0, 5, 0);
        y.debt(0, 1, 5, 0);
        Due.is("paid by coin", y.sunday(), 2);
        y.set(2, 1);
        y.debt(1, 0, 6, 0);
        Due.is("one that is paid makes no round", y.sunday(), 0);
    }

    /** "nobody twice": two rounds through one person are two. */
    private static void nobodyTwice() {
        PaidWhereMade x = Towns.plain(1, 3, 0);
        x.set(2, 1);
        x.debt(0, 1, 5, 0);
        x.debt(1, 0, 4, 0);
        x.debt(0, 2, 3, 0);
        x.debt(2, 0, 6, 0);
        Due.is("an eight", x.sunday(), 2);
        due(x, "an eight", 2, 1, 0, 0, 3);
    }

    /** "the ROUND with the fewest DEBTS". */
    private static void fewestDebtsFirst() {
        PaidWhereMade x = Towns.plain(1, 4, 0);
        x.set(2, 1);
        x.debt(0, 1, 5, 0);
        x.debt(1, 2, 5, 0);
        x.debt(2, 3, 5, 0);
        x.debt(3, 0, 5, 0);
        x.debt(3, 1, 5, 0);
        // 1 2 4 has three, 0 1 2 3 four
        Due.is("three, not four", x.sunday(), 3);
        due(x, "three, not four", 2, 5, 0, 0, 5, 0);
    }

    /** "of several the first (as a row of DEBTS that begins with its least one)". */
    private static void firstRowOfSeveral() {
        PaidWhereMade x = Towns.plain(1, 3, 0);
        x.set(2, 1);
        x.debt(1, 2, 9, 0);
        x.debt(0, 1, 4, 0);
        x.debt(2, 0, 3, 0);
        x.debt(2, 0, 3, 0);
        x.debt(0, 1, 3, 0);
        // 0 2 1 by 3, then 0 3 1 by 1, then 0 3 4 by 2
        Due.is("three rows", x.sunday(), 3);
        due(x, "three rows", 2, 3, 0, 0, 0, 1);
        PaidWhereMade y = Towns.plain(1, 4, 0);
        y.set(2, 1);
        y.debt(2, 3, 8, 0);
        y.debt(0, 1, 5, 0);
        y.debt(1, 0, 5, 0);
        y.debt(3, 2, 8, 0);
        Due.is("two apart", y.sunday(), 4);
        PaidWhereMade z = Towns.plain(1, 3, 0);
        z.set(2, 1);
        z.debt(0, 1, 5, 0);
        z.debt(0, 2, 5, 0);
        z.debt(2, 0, 5, 0);
        z.debt(1, 2, 5, 0);
        z.debt(1, 0, 5, 0);
        // 0 4 comes ahead of 1 2 and of 0 3 2
        Due.is("0 4 and 1 2", z.sunday(), 4);
        due(z, "0 4 and 1 2", 6, 2, 2, 2, 0, 2);
        PaidWhereMade v = Towns.plain(1, 4, 0);
        v.set(2, 1);
        v.debt(1, 2, 5, 0);
        v.debt(2, 0, 5, 0);
        v.debt(0, 1, 5, 0);
        v.debt(2, 3, 5, 0);
        v.debt(3, 1, 5, 0);
        Due.is("0 1 2 ahead of 0 3 4", v.sunday(), 3);
        due(v, "0 1 2 ahead of 0 3 4", 2, 0, 0, 0, 5, 5);
    }

    /** "as long as there is a ROUND there". */
    private static void asLongAsThereIsOne() {
        PaidWhereMade x = Towns.plain(1, 2, 0);
        x.set(2, 1);
        x.debt(0, 1, 1, 0);
        for (int d = 1; d < 30; d++) {
            x.debt(d % 2, 1 - d % 2, d == 29 ? 1 : 2, 0);
        }
        Due.is("till all thirty are paid", x.sunday(), 30);
        Due.is("look(3)", x.look(3), 0);
    }

    /** "SPOT by SPOT": rounds on each spot on which its people stand. */
    private static void spotBySpot() {
        PaidWhereMade x = Towns.plain(10, 0, 0);
        for (int p = 0; p < 10; p++) {
            x.person(p % 2 * 9, 0, 0);
        }
        x.set(2, 1);
        for (int s = 0; s < 10; s += 9) {
            int p = s == 0 ? 2 : 3;
            x.debt(p, p + 2, 6, s);
            x.debt(p + 2, p, 7, s);
        }
        Due.is("on the first and the last", x.sunday(), 2);
        due(x, "both", 2, 0, 1, 0, 1);
    }

    /** "each is less by the least of them; those with 0 are PAID (not by COIN)". */
    private static void lessByTheLeast() {
        PaidWhereMade x = Towns.plain(1, 3, 0);
        x.set(2, 1);
        x.debt(0, 1, 9999, 0);
        x.debt(1, 2, 1, 0);
        x.debt(2, 0, 2, 0);
        Due.is("sunday()", x.sunday(), 1);
        due(x, "by 1", 2, 9998, 0, 1);
        due(x, "by 1", 6, 0, 2, 0);
        Due.is("no coin goes", x.of(0, 1) + x.of(1, 1) + x.of(2, 1), 0);
        PaidWhereMade y = Towns.plain(1, 2, 3);
        y.set(2, 1);
        y.debt(0, 1, 8, 0);
        y.debt(1, 0, 5, 0);
        Due.is("what is left is paid by coin on the same Sunday", y.sunday(), 2);
        due(y, "left", 2, 3, 0);
        due(y, "left", 6, 1, 2);
        due(y, "left", 5, 0, 0);
        Due.is("of(0, 1)", y.of(0, 1), 0);
        Due.is("of(1, 1)", y.of(1, 1), 6);
    }

    /** "Then open DEBTS by number". */
    private static void paidByNumber() {
        PaidWhereMade x = Towns.plain(1, 3, 0);
        x.person(0, 5, 0);
        x.debt(1, 2, 5, 0);
        x.debt(0, 1, 5, 0);
        x.debt(3, 0, 5, 0);
        x.debt(0, 1, 5, 0);
        x.debt(1, 2, 5, 0);
        Due.is("only what comes behind", x.sunday(), 3);
        due(x, "by number", 6, 0, 0, 1, 1, 1);
        Due.is("the end of it", x.of(2, 1), 5);
        Due.is("nothing again", x.sunday(), 0);
    }

    /** "and the DEBTOR has the COINS". */
    private static void hasTheCoins() {
        PaidWhereMade x = Towns.plain(1, 2, 5);
        x.debt(0, 1, 6, 0);
        Due.is("one too few", x.sunday(), 0);
        Due.is("of(0, 1)", x.of(0, 1), 5);
        x.debt(0, 1, 5, 0);
        Due.is("just enough", x.sunday(), 1);
        Due.is("of(0, 1)", x.of(0, 1), 0);
        x.debt(0, 1, 1, 0);
        Due.is("nothing left", x.sunday(), 0);
        PaidWhereMade y = Towns.plain(1, 2, 99999);
        y.debt(0, 1, 9999, 0);
        y.sunday();
        Due.is("more than one may come with", y.of(1, 1), 109998);
    }

    /** "if both stand on its SPOT". */
    private static void bothStandOnItsSpot() {
        PaidWhereMade x = Towns.plain(2, 2, 5);
        x.debt(0, 1, 5, 1);
        Due.is("neither", x.sunday(), 0);
        x.goal(0, 1);
        Due.is("the debtor alone", x.sunday(), 0);
        x.goal(1, 1);
        Due.is("the creditor alone", x.sunday(), 0);
        x.goal(0, 1);
        x.goal(1, 1);
        Due.is("both", x.sunday(), 1);
        Due.is("owed(0, 5)", x.owed(0, 5), 3);
    }

    /** "each open DEBT whose age .. is a multiple of TURN", "TURN 1 .. 52". */
    private static void ageIsAMultipleOfTurn() {
        PaidWhereMade x = Towns.plain(2, 2, 0);
        x.set(1, 10);
        x.set(3, 52);
        x.pass(1);
        x.debt(0, 1, 100, 1);
        x.pass(51);
        Due.is("age 51", x.owed(0, 2), 100);
        x.pass(1);
        Due.is("age 52", x.owed(0, 2), 110);
        x.pass(51);
        Due.is("age 103", x.owed(0, 2), 110);
        x.pass(1);
        Due.is("age 104", x.owed(0, 2), 121);
        x.set(3, 1);
        x.pass(1);
        Due.is("age 105 by 1", x.owed(0, 2), 133);
        x.debt(0, 1, 50, 1);
        x.sunday();
        due(x, "each Sunday", 2, 146, 55);
        x.set(3, 4);
        x.pass(2);
        due(x, "ages 108 and 3", 2, 160, 55);
        x.pass(1);
        due(x, "ages 109 and 4", 2, 160, 60);
    }

    /** "Quotients go downwards." */
    private static void quotientsGoDownwards() {
        PaidWhereMade x = Towns.plain(2, 2, 0);
        x.set(3, 1);
        x.set(1, 99);
        x.debt(0, 1, 1, 1);
        x.debt(0, 1, 2, 1);
        x.debt(0, 1, 100, 1);
        x.debt(0, 1, 101, 1);
        x.sunday();
        due(x, "99 of a hundred", 2, 1, 3, 199, 200);
        x.set(1, 1);
        x.sunday();
        due(x, "1 of a hundred", 2, 1, 3, 200, 202);
        x.set(1, 0);
        x.pass(10);
        due(x, "0 of a hundred", 2, 1, 3, 200, 202);
    }

    /** "(99999 at most)". */
    private static void at99999() {
        // three times by 99: 77518, 69930 and 73530; then by the last rate 99998, 99999 and 100000
        int[] coins = {9837, 8874, 9331};
        int[] grown = {77518, 69930, 73530};
        int[] rates = {29, 43, 36};
        int[] most = {99998, 99999, 99999};
        for (int i = 0; i < 3; i++) {
            PaidWhereMade x = Towns.plain(2, 2, 0);
            x.set(3, 1);
            x.set(1, 99);
            x.debt(0, 1, coins[i], 1);
            x.pass(3);
            Due.is("three times", x.owed(0, 2), grown[i]);
            x.set(1, rates[i]);
            x.pass(1);
            Due.is("the most", x.owed(0, 2), most[i]);
            x.set(1, 99);
            x.pass(1);
            Due.is("and no more", x.owed(0, 2), 99999);
            x.pass(400);
            Due.is("and no more", x.owed(0, 2), 99999);
            Due.is("of(0, 5)", x.of(0, 5), 99999);
        }
        PaidWhereMade x = Towns.plain(2, 2, 0);
        x.set(3, 1);
        x.set(1, 99);
        for (int d = 0; d < 30; d++) {
            x.debt(0, 1, 9999, 1);
        }
        x.pass(5);
        Due.is("what thirty come to", x.of(0, 5), 30 * 99999);
        Due.is("what thirty come to", x.of(1, 6), 30 * 99999);
    }

    /** Interest comes behind what is paid: a debt that is paid on the day stays as it is. */
    private static void onlyOpenDebtsGrow() {
        PaidWhereMade x = Towns.plain(1, 2, 100);
        x.set(1, 50);
        x.set(3, 1);
        x.debt(0, 1, 100, 0);
        Due.is("sunday()", x.sunday(), 1);
        x.pass(10);
        Due.is("as paid by coin", x.owed(0, 2), 100);
        x.set(2, 1);
        x.debt(0, 1, 300, 0);
        x.debt(1, 0, 400, 0);
        x.sunday();
        due(x, "a round", 2, 100, 0, 100);
        due(x, "a round", 6, 1, 2, 1);
        x.pass(10);
        Due.is("0 by a round", x.owed(1, 2), 0);
    }

    /** "NONE, and nothing is done, if it would be above 9999." */
    private static void sundayAbove9999() {
        Refusing.is("sunday() on 9999", Towns::last, PaidWhereMade::sunday, -1);
        PaidWhereMade x = new PaidWhereMade();
        for (int i = 0; i < 24; i++) {
            x.pass(400);
        }
        x.pass(398);
        Due.is("9998", x.look(4), 9998);
        Due.is("sunday() on 9998", x.sunday(), 0);
        Due.is("9999", x.look(4), 9999);
        Due.is("sunday() on 9999", x.sunday(), -1);
        Due.is("9999", x.look(4), 9999);
    }

    /** "SUNDAYS go by (1 .. 400)"; "NONE, and nothing is done, if one can't be". */
    private static void passFrom1To400() {
        for (int n : new int[] {LEAST, -1, 0, 401, MOST}) {
            Refusing.is("pass(" + n + ")", Towns::busy, x -> x.pass(n), -1);
        }
        PaidWhereMade x = new PaidWhereMade();
        Due.is("pass(1)", x.pass(1), 0);
        Due.is("look(4)", x.look(4), 1);
        Due.is("pass(400)", x.pass(400), 0);
        Due.is("look(4)", x.look(4), 401);
    }

    /** "or beyond 9999". */
    private static void passBeyond9999() {
        Refusing.is("pass(1) on 9999", Towns::last, x -> x.pass(1), -1);
        Refusing.is("pass(400) on 9999", Towns::last, x -> x.pass(400), -1);
        PaidWhereMade x = new PaidWhereMade();
        for (int i = 0; i < 24; i++) {
            x.pass(400);
        }
        Due.is("pass(400) from 9600", x.pass(400), -1);
        Due.is("9600", x.look(4), 9600);
        Due.is("pass(399) from 9600", x.pass(399), 0);
        Due.is("9999", x.look(4), 9999);
    }

    /** "HOME being all GOALS: how many DEBTS were PAID". */
    private static void passIsAtHome() {
        PaidWhereMade x = Towns.plain(2, 2, 10);
        x.debt(0, 1, 4, 0);
        x.debt(0, 1, 5, 1);
        x.set(1, 99);
        x.set(3, 1);
        x.goal(0, 1);
        x.goal(1, 1);
        Due.is("pass(1)", x.pass(1), 1);
        due(x, "at home", 6, 1, 0);
        Due.is("no miles", x.look(5), 0);
        x.debt(1, 0, 3, 0);
        x.debt(0, 1, 15, 0);
        Feeding.law(x, "bar when sunday<3;");
        Due.is("of all Sundays that pass", x.pass(3), 1);
        due(x, "of all", 5, 0, -1, 3, -1);
        Due.is("as it has grown", x.owed(2, 2), 9);
    }

    /** "NONE - 1 if there is none such, or another what." */
    private static void ofNoneSuch() {
        for (int p : new int[] {LEAST, -2, -1, 3, 10, MOST}) {
            Refusing.is("of(" + p + ", 0)", Towns::busy, x -> x.of(p, 0), -2);
        }
        for (int what : new int[] {LEAST, -1, 7, 8, 10, MOST}) {
            Refusing.is("of(0, " + what + ")", Towns::busy, x -> x.of(0, what), -2);
        }
        PaidWhereMade x = Towns.full();
        Due.is("of(9, 1)", x.of(9, 1), 900);
        Due.is("of(10, 1)", x.of(10, 1), -2);
    }

    /** "4 where he stood on the latest SUNDAY (NONE), 5 what all open DEBTS as DEBTOR come to, 6 as CREDITOR". */
    private static void ofBeforeAndBehind() {
        PaidWhereMade x = Towns.plain(2, 2, 5);
        Due.is("nowhere yet", x.of(0, 4), -1);
        Due.is("nothing owed", x.of(0, 5), 0);
        Due.is("nothing due", x.of(0, 6), 0);
        x.debt(0, 1, 5, 0);
        x.debt(0, 1, 6, 1);
        Due.is("all open ones", x.of(0, 5), 11);
        Due.is("all open ones", x.of(1, 6), 11);
        x.goal(0, 1);
        x.sunday();
        Due.is("there", x.of(0, 4), 1);
        x.person(1, 0, 0);
        Due.is("one who came later", x.of(2, 4), -1);
        x.pass(1);
        Due.is("home on the latest", x.of(0, 4), 0);
        Due.is("home on the latest", x.of(2, 4), 1);
        Due.is("those that are paid don't count", x.of(0, 5), 6);
        Due.is("those that are paid don't count", x.of(1, 6), 6);
        Due.is("as the other one none", x.of(0, 6) + x.of(1, 5), 0);
    }

    /** "NONE - 1 if there is none such, or another what." */
    private static void owedNoneSuch() {
        for (int d : new int[] {LEAST, -2, -1, 4, 30, MOST}) {
            Refusing.is("owed(" + d + ", 0)", Towns::busy, x -> x.owed(d, 0), -2);
        }
        for (int what : new int[] {LEAST, -1, 8, 9, 10, MOST}) {
            Refusing.is("owed(0, " + what + ")", Towns::busy, x -> x.owed(0, what), -2);
        }
        PaidWhereMade x = Towns.full();
        Due.is("owed(29, 2)", x.owed(29, 2), 30);
        Due.is("owed(30, 2)", x.owed(30, 2), -2);
    }

    /** "2 COINS (0 if PAID by a ROUND; as PAID by COIN)", "5 that on which it was PAID (NONE), 6 how". */
    private static void owedPaid() {
        PaidWhereMade x = Towns.plain(2, 2, 10);
        x.set(2, 1);
        x.debt(0, 1, 3, 0);
        x.debt(0, 1, 4, 0);
        x.debt(1, 0, 3, 0);
        x.debt(1, 0, 9, 1);
        x.pass(2);
        int[] byRound = {0, 1, 0, 0, 0, 0, 2, 0};
        int[] byCoin = {0, 1, 4, 0, 0, 0, 1, 0};
        int[] open = {1, 0, 9, 1, 0, -1, 0, 1};
        for (int what = 0; what < 8; what++) {
            Due.is("by a round: owed(0, " + what + ")", x.owed(0, what), byRound[what]);
            Due.is("by coin: owed(1, " + what + ")", x.owed(1, what), byCoin[what]);
            Due.is("open: owed(3, " + what + ")", x.owed(3, what), open[what]);
        }
        x.debt(0, 1, 2, 0);
        x.pass(2);
        Due.is("paid on Sunday 2", x.owed(4, 5), 2);
        Due.is("made on Sunday 2", x.owed(4, 4), 2);
    }

    /** "7 1 if it is open and THE LAW lets it now (here: who stood there on the latest SUNDAY; 0 ahead of any)". */
    private static void owedNow() {
        PaidWhereMade x = Towns.plain(2, 3, 0);
        x.debt(0, 1, 5, 1);
        Due.is("neither coins nor both there are asked", x.owed(0, 7), 1);
        Feeding.law(x, "pay when here=0 and sunday=0;bar;");
        Due.is("0 ahead of any", x.owed(0, 7), 1);
        x.goal(0, 1);
        Due.is("a goal is no standing", x.owed(0, 7), 1);
        x.goal(2, 1);
        x.sunday();
        Due.is("now it is another Sunday", x.owed(0, 7), 0);
        Feeding.law(x, "pay when here=2 and sunday=1 and age=1;bar;");
        Due.is("two stood there", x.owed(0, 7), 1);
        x.person(1, 0, 0);
        Due.is("one who came later stood nowhere", x.owed(0, 7), 1);
        x.sunday();
        Feeding.law(x, "pay when here=1 and sunday=2 and age=2;bar;");
        Due.is("only he stood there", x.owed(0, 7), 1);
    }
}
