/** Promises 13 and 14, and 15 and 16 behind Sundays: fog, prices, rounds, pay and interest, by hand. */
public final class SundayTest {
    public static void main(String[] args) {
        pricesAndMiles();
        paying();
        fog();
        interest();
        rounds();
        roundsInOrder();
        roundOfAll();
        passing();
        lawOnSunday();
        Due.finish();
    }

    private static PaidWhereMade town(int spots, int people, int coin) {
        PaidWhereMade x = new PaidWhereMade();
        for (int s = 0; s < spots; s++) {
            x.spot(0);
        }
        for (int p = 0; p < people; p++) {
            x.person(0, coin, 30);
        }
        return x;
    }

    private static void pricesAndMiles() {
        PaidWhereMade x = new PaidWhereMade();
        x.spot(99);
        x.spot(10);
        x.way(0, 1, 7);
        x.person(0, 0, 0);
        x.person(0, 10, 0);
        x.person(0, 9, 0);
        x.person(1, 50, 0);
        x.goal(0, 0);
        x.goal(1, 1);
        x.goal(2, 1);
        x.goal(3, 0);
        Due.is("sunday()", x.sunday(), 0);
        Due.is("home costs nothing", x.of(0, 4), 0);
        Due.is("just enough", x.of(1, 4), 1);
        Due.is("all of it", x.of(1, 1), 0);
        Due.is("one too few", x.of(2, 4), 0);
        Due.is("not paid", x.of(2, 1), 9);
        Due.is("too dear", x.of(3, 4), 1);
        Due.is("not paid", x.of(3, 1), 50);
        Due.is("miles there and back", x.look(5), 14);
        x.way(0, 1, 8);
        Due.is("miles of then", x.look(5), 14);
    }

    private static void paying() {
        PaidWhereMade x = town(2, 3, 0);
        int rich = x.person(0, 20, 0);
        x.debt(0, 1, 20, 0);
        x.debt(rich, 0, 20, 0);
        x.debt(0, 1, 20, 0);
        x.debt(1, 2, 15, 0);
        x.debt(1, 2, 6, 0);
        x.debt(1, 2, 5, 1);
        Due.is("by number: coins that came may go on", x.sunday(), 3);
        int[] how = {0, 1, 1, 1, 0, 0};
        for (int d = 0; d < how.length; d++) {
            Due.is("owed(" + d + ", 6)", x.owed(d, 6), how[d]);
            Due.is("owed(" + d + ", 5)", x.owed(d, 5), how[d] == 1 ? 0 : -1);
        }
        Due.is("coins as paid", x.owed(2, 2), 20);
        Due.is("of(1, 1)", x.of(1, 1), 5);
        Due.is("of(2, 1)", x.of(2, 1), 15);
        Due.is("look(4)", x.look(4), 1);
        x.goal(1, 1);
        Due.is("one alone on the spot", x.sunday(), 0);
        x.goal(1, 1);
        x.goal(2, 1);
        Due.is("both there", x.sunday(), 1);
        Due.is("paid on", x.owed(5, 5), 2);
        Due.is("look(3)", x.look(3), 2);
    }

    private static void fog() {
        PaidWhereMade x = town(2, 2, 50);
        x.debt(0, 1, 5, 0);
        int state = 12345;
        x.state(state);
        x.set(0, 50);
        int fogs = 0;
        for (int i = 0; i < 40; i++) {
            x.goal(1, 1);
            x.sunday();
            state = 1664525 * state + 1013904223;
            boolean fog = (state >>> 8) % 100 < 50;
            fogs += fog ? 1 : 0;
            Due.is("fog", x.look(9) == 1, fog);
            Due.is("stays at home", x.of(1, 4), fog ? 0 : 1);
            Due.is("state", x.look(6), state);
            Due.is("home again", x.of(1, 3), 0);
        }
        Due.is("of 40 some are foggy", fogs > 5 && fogs < 35, true);
        Due.is("at home debts may be paid in fog", x.owed(0, 6), 1);
        x.set(0, 0);
        x.sunday();
        Due.is("no fog", x.look(9), 0);
        Due.is("no draw", x.look(6), state);
    }

    private static void interest() {
        PaidWhereMade x = town(2, 2, 0);
        x.set(1, 10);
        x.debt(0, 1, 95, 1);
        x.pass(1);
        x.debt(0, 1, 9999, 1);
        x.pass(2);
        Due.is("age 3", x.owed(0, 2), 95);
        x.pass(1);
        Due.is("age 4", x.owed(0, 2), 104);
        Due.is("age 3", x.owed(1, 2), 9999);
        x.pass(1);
        Due.is("age 4", x.owed(1, 2), 10998);
        Due.is("age 5", x.owed(0, 2), 104);
        x.set(3, 3);
        x.pass(1);
        Due.is("age 6 by 3", x.owed(0, 2), 114);
        x.set(3, 1);
        x.set(1, 99);
        x.pass(3);
        Due.is("three times", x.owed(1, 2), 86670);
        x.pass(1);
        Due.is("99999 at most", x.owed(1, 2), 99999);
        x.pass(1);
        Due.is("99999 at most", x.owed(1, 2), 99999);
    }

    private static void rounds() {
        PaidWhereMade x = town(1, 4, 0);
        x.debt(0, 1, 10, 0);
        x.debt(1, 2, 7, 0);
        x.debt(2, 0, 8, 0);
        Due.is("without cancel", x.sunday(), 0);
        x.set(2, 1);
        Due.is("with cancel", x.sunday(), 1);
        int[] coins = {3, 0, 1};
        int[] how = {0, 2, 0};
        for (int d = 0; d < 3; d++) {
            Due.is("owed(" + d + ", 2)", x.owed(d, 2), coins[d]);
            Due.is("owed(" + d + ", 6)", x.owed(d, 6), how[d]);
        }
        Due.is("owed(1, 5)", x.owed(1, 5), 1);
        Due.is("owed(1, 7)", x.owed(1, 7), 0);
        Feeding.law(x, "bar;");
        x.debt(1, 2, 1, 0);
        Due.is("the law is not asked for a round", x.sunday(), 2);
        Due.is("left", x.owed(0, 2), 2);
        x.debt(1, 0, 2, 0);
        x.spot(0);
        x.goal(0, 1);
        Due.is("not all stand there", x.sunday(), 0);
        x.set(0, 100);
        x.goal(0, 1);
        Due.is("in fog too", x.sunday(), 2);
    }

    private static void roundsInOrder() {
        PaidWhereMade x = town(2, 4, 0);
        x.set(2, 1);
        x.debt(0, 1, 5, 0);
        x.debt(1, 2, 5, 0);
        x.debt(2, 0, 5, 0);
        x.debt(2, 1, 5, 0);
        x.debt(3, 0, 9, 1);
        x.debt(0, 3, 9, 1);
        Due.is("the fewest debts first", x.sunday(), 2);
        int[] how = {0, 2, 0, 2, 0, 0};
        for (int d = 0; d < how.length; d++) {
            Due.is("owed(" + d + ", 6)", x.owed(d, 6), how[d]);
        }
        x.debt(1, 0, 2, 0);
        x.debt(1, 0, 3, 0);
        x.debt(1, 0, 4, 0);
        Due.is("the first row, and on", x.sunday(), 3);
        Due.is("owed(8, 2)", x.owed(8, 2), 4);
        Due.is("owed(7, 2)", x.owed(7, 2), 0);
        Due.is("owed(0, 6)", x.owed(0, 6), 2);
        Due.is("owed(5, 2)", x.owed(5, 2), 9);
    }

    private static void roundOfAll() {
        PaidWhereMade x = town(2, 10, 0);
        x.set(2, 1);
        for (int p = 0; p < 10; p++) {
            x.debt(p, (p + 3) % 10, 7 + p, 0);
        }
        x.goal(9, 1);
        Due.is("nine of ten", x.sunday(), 0);
        Due.is("all ten", x.sunday(), 1);
        for (int d = 0; d < 10; d++) {
            Due.is("owed(" + d + ", 2)", x.owed(d, 2), d);
        }
        PaidWhereMade y = town(1, 10, 0);
        y.set(2, 1);
        for (int i = 0; i < 15; i++) {
            y.debt(0, 1, i + 1, 0);
            y.debt(1, 0, i + 1, 0);
        }
        Due.is("all thirty", y.sunday(), 30);
        Due.is("owed(29, 6)", y.owed(29, 6), 2);
    }

    private static void passing() {
        PaidWhereMade x = town(2, 2, 3);
        x.debt(0, 1, 3, 0);
        x.debt(1, 0, 6, 0);
        x.debt(0, 1, 1, 1);
        x.goal(0, 1);
        Due.is("pass(0)", x.pass(0), -1);
        Due.is("pass(401)", x.pass(401), -1);
        Due.is("pass(-1)", x.pass(-1), -1);
        Due.is("nothing done", x.of(0, 3), 1);
        Due.is("home is the goal", x.pass(2), 2);
        Due.is("look(4)", x.look(4), 2);
        Due.is("of(0, 4)", x.of(0, 4), 0);
        for (int i = 0; i < 24; i++) {
            Due.is("pass(400)", x.pass(400), 0);
        }
        Due.is("pass(398)", x.pass(398), -1);
        Due.is("look(4)", x.look(4), 9602);
        Due.is("pass(397)", x.pass(397), 0);
        x.goal(0, 1);
        Due.is("sunday() beyond", x.sunday(), -1);
        Due.is("pass(1) beyond", x.pass(1), -1);
        Due.is("nothing done", x.of(0, 3), 1);
        Due.is("look(4)", x.look(4), 9999);
        Due.is("a debt on the last Sunday", x.owed(x.debt(0, 1, 1, 0), 4), 9999);
    }

    private static void lawOnSunday() {
        PaidWhereMade x = town(2, 3, 10);
        x.debt(0, 1, 5, 1);
        x.debt(0, 1, 4, 1);
        Feeding.law(x, "bar when here < 3 or purse < 10;");
        Due.is("nobody stood anywhere", x.owed(0, 7), 0);
        x.goal(0, 1);
        x.goal(1, 1);
        Due.is("two there", x.sunday(), 0);
        x.goal(0, 1);
        x.goal(1, 1);
        x.goal(2, 1);
        Due.is("three there, and the purse of then", x.sunday(), 1);
        Due.is("owed(0, 6)", x.owed(0, 6), 1);
        Due.is("owed(1, 7)", x.owed(1, 7), 0);
        Feeding.law(x, "pay when sunday=3 and age=3 and here=2; bar;");
        x.goal(0, 1);
        x.goal(1, 1);
        Due.is("Sunday 2", x.sunday(), 0);
        Due.is("as of now: Sunday 3", x.owed(1, 7), 1);
        x.goal(0, 1);
        x.goal(1, 1);
        Due.is("Sunday 3", x.sunday(), 1);
    }
}
