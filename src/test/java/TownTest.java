/** Promises 1 to 8, 15, 16 and 26: who and what there is, by hand. */
public final class TownTest {
    public static void main(String[] args) {
        newObject();
        state();
        spotsAndWays();
        people();
        debts();
        settings();
        goals();
        sums();
        strangeNumbers();
        Due.finish();
    }

    private static void newObject() {
        PaidWhereMade x = new PaidWhereMade();
        Due.is("NONE", PaidWhereMade.NONE, -1);
        for (int what = 0; what < 10; what++) {
            Due.is("new look(" + what + ")", x.look(what), 0);
        }
        Due.is("new look(23)", x.look(23), 4);
        Due.is("new of(0, 0)", x.of(0, 0), -2);
        Due.is("new owed(0, 0)", x.owed(0, 0), -2);
        Due.is("new image(false)", x.image(false), false);
        Due.is("new fault(0)", x.fault(0), 0);
        Due.is("new fault(1)", x.fault(1), -1);
        Due.is("new fault(2)", x.fault(2), -1);
    }

    private static void state() {
        PaidWhereMade x = new PaidWhereMade();
        Due.is("state(7)", x.state(7), 0);
        Due.is("state(-5)", x.state(-5), 7);
        Due.is("look(6)", x.look(6), -5);
        x.sunday();
        Due.is("state without fog", x.look(6), -5);
        x.set(0, 1);
        x.sunday();
        Due.is("state with fog", x.look(6), -5 * 1664525 + 1013904223);
    }

    private static void spotsAndWays() {
        PaidWhereMade x = new PaidWhereMade();
        Due.is("spot(-1)", x.spot(-1), -1);
        Due.is("spot(100)", x.spot(100), -1);
        Due.is("way of no spots", x.way(0, 1, 5), false);
        for (int s = 0; s < 10; s++) {
            Due.is("spot", x.spot(s == 0 ? 99 : 0), s);
        }
        Due.is("an eleventh spot", x.spot(0), -1);
        Due.is("look(0)", x.look(0), 10);
        Due.is("first way", x.tour(3, 1 << 7), 18);
        Due.is("way(3, 7, 0)", x.way(3, 7, 0), true);
        Due.is("way told to 0", x.tour(7, 1 << 3), 0);
        Due.is("way(7, 3, 99)", x.way(7, 3, 99), true);
        Due.is("way told either way", x.tour(3, 1 << 7), 198);
        Due.is("way of one", x.way(4, 4, 1), false);
        Due.is("way of 100", x.way(4, 5, 100), false);
        Due.is("way of -1", x.way(4, 5, -1), false);
        Due.is("way of 10", x.way(10, 5, 1), false);
        Due.is("way of -1", x.way(4, -1, 1), false);
        Due.is("way unchanged", x.tour(4, 1 << 5), 18);
    }

    private static void people() {
        PaidWhereMade x = new PaidWhereMade();
        Due.is("person without spot", x.person(0, 1, 1), -1);
        x.spot(0);
        x.spot(0);
        Due.is("person(2, ..)", x.person(2, 1, 1), -1);
        Due.is("person(-1, ..)", x.person(-1, 1, 1), -1);
        Due.is("coin -1", x.person(0, -1, 1), -1);
        Due.is("coin 100000", x.person(0, 100000, 1), -1);
        Due.is("age -1", x.person(0, 1, -1), -1);
        Due.is("age 100", x.person(0, 1, 100), -1);
        for (int p = 0; p < 10; p++) {
            Due.is("person", x.person(p % 2, 99999 - p, 99 - p), p);
        }
        Due.is("an eleventh", x.person(0, 1, 1), -1);
        Due.is("look(1)", x.look(1), 10);
        int[] ninth = {1, 99990, 90, 1, -1, 0, 0, -2};
        for (int what = 0; what < ninth.length; what++) {
            Due.is("of(9, " + what + ")", x.of(9, what), ninth[what]);
        }
        Due.is("of(9, -1)", x.of(9, -1), -2);
        Due.is("of(10, 0)", x.of(10, 0), -2);
        Due.is("of(-1, 0)", x.of(-1, 0), -2);
    }

    private static PaidWhereMade small() {
        PaidWhereMade x = new PaidWhereMade();
        x.spot(3);
        x.spot(0);
        x.person(0, 100, 40);
        x.person(1, 50, 70);
        x.person(1, 10, 20);
        return x;
    }

    private static void debts() {
        PaidWhereMade x = small();
        Due.is("debt to oneself", x.debt(1, 1, 5, 0), -1);
        Due.is("debt of nobody", x.debt(3, 1, 5, 0), -1);
        Due.is("debt to nobody", x.debt(1, -1, 5, 0), -1);
        Due.is("debt of 0", x.debt(0, 1, 0, 0), -1);
        Due.is("debt of 10000", x.debt(0, 1, 10000, 0), -1);
        Due.is("debt nowhere", x.debt(0, 1, 5, 2), -1);
        x.pass(3);
        for (int d = 0; d < 30; d++) {
            Due.is("debt", x.debt(d % 2, 2, d == 0 ? 9999 : d, d % 2), d);
        }
        Due.is("a thirty-first", x.debt(0, 1, 5, 0), -1);
        Due.is("look(2)", x.look(2), 30);
        Due.is("look(3)", x.look(3), 30);
        int[] seventh = {1, 2, 7, 1, 3, -1, 0, 1, -2};
        for (int what = 0; what < seventh.length; what++) {
            Due.is("owed(7, " + what + ")", x.owed(7, what), seventh[what]);
        }
        Due.is("owed(7, -1)", x.owed(7, -1), -2);
        Due.is("owed(30, 0)", x.owed(30, 0), -2);
        Due.is("owed(-1, 0)", x.owed(-1, 0), -2);
    }

    private static void settings() {
        PaidWhereMade x = new PaidWhereMade();
        int[] least = {0, 0, 0, 1};
        int[] most = {100, 99, 1, 52};
        for (int k = 0; k < 4; k++) {
            Due.is("too little", x.set(k, least[k] - 1), false);
            Due.is("the most", x.set(k, most[k]), true);
            Due.is("too much", x.set(k, most[k] + 1), false);
            Due.is("look", x.look(20 + k), most[k]);
            Due.is("the least", x.set(k, least[k]), true);
            Due.is("look", x.look(20 + k), least[k]);
        }
        Due.is("set(4, 0)", x.set(4, 0), false);
        Due.is("set(-1, 0)", x.set(-1, 0), false);
        Due.is("look(19)", x.look(19), -1);
        Due.is("look(24)", x.look(24), -1);
        Due.is("look(10)", x.look(10), -1);
        Due.is("look(-1)", x.look(-1), -1);
    }

    private static void goals() {
        PaidWhereMade x = small();
        Due.is("goal(0, 1)", x.goal(0, 1), true);
        Due.is("of(0, 3)", x.of(0, 3), 1);
        Due.is("goal(0, 2)", x.goal(0, 2), false);
        Due.is("goal(3, 1)", x.goal(3, 1), false);
        Due.is("goal(-1, 1)", x.goal(-1, 1), false);
        Due.is("goal(0, -1)", x.goal(0, -1), false);
        Due.is("of(0, 3)", x.of(0, 3), 1);
        x.sunday();
        Due.is("of(0, 4)", x.of(0, 4), 1);
        Due.is("home again", x.of(0, 3), 0);
        Due.is("one who comes later stood nowhere", x.of(x.person(0, 0, 0), 4), -1);
    }

    private static void sums() {
        PaidWhereMade x = small();
        x.debt(1, 2, 30, 1);
        x.debt(1, 2, 25, 1);
        x.debt(2, 1, 7, 0);
        Due.is("owing", x.of(1, 5), 55);
        Due.is("due", x.of(2, 6), 55);
        Due.is("due", x.of(1, 6), 7);
        x.sunday();
        Due.is("only what is open", x.of(1, 5), 25);
        Due.is("only what is open", x.of(2, 6), 25);
        Due.is("look(3)", x.look(3), 2);
        Due.is("look(2)", x.look(2), 3);
    }

    private static void strangeNumbers() {
        PaidWhereMade x = small();
        x.debt(0, 1, 5, 0);
        int[] strange = {Integer.MIN_VALUE, Integer.MIN_VALUE + 9, -1025, -11, 31, 32, 33, 64, 1 << 20,
            Integer.MAX_VALUE - 9, Integer.MAX_VALUE};
        for (int v : strange) {
            Due.is("spot", x.spot(v > 99 || v < 0 ? v : -1), -1);
            Due.is("way", x.way(v, 0, 1) || x.way(0, v, 1), false);
            Due.is("person", x.person(v, 0, 0), -1);
            Due.is("debt", x.debt(v, 0, 1, 0), -1);
            Due.is("debt", x.debt(0, v, 1, 0), -1);
            Due.is("debt", x.debt(0, 1, 1, v), -1);
            Due.is("goal", x.goal(v, 0) || x.goal(0, v), false);
            Due.is("of", x.of(v, 0), -2);
            Due.is("of", x.of(0, v), -2);
            Due.is("owed", x.owed(v, 0), -2);
            Due.is("owed", x.owed(0, v), -2);
            Due.is("cleared", x.cleared(v), -1);
            Due.is("first", x.first(v, 0), -1);
            Due.is("first", x.first(0, v), -1);
            Due.is("tour", x.tour(v, 0), -1);
            Due.is("tour", x.tour(0, v), -1);
            Due.is("share", x.share(v, 1, 0, 0), -1);
            Due.is("share", x.share(0, v, 0, 0), -1);
            Due.is("share", x.share(0, 1, v, 0), -1);
            Due.is("share", x.share(0, 1, 0, v), -1);
            Due.is("chance", x.chance(v, 0, 0) || x.chance(0, v, 0), false);
            Due.is("waiting", x.waiting(v, 1, 0), -1);
            Due.is("waiting", x.waiting(0, v, 0), -1);
            Due.is("waiting", x.waiting(0, 1, v), -1);
            Due.is("line", x.line(0, v, -1, 0), -1);
            Due.is("line", x.line(0, 0, v, -1), -1);
            Due.is("line", x.line(0, 0, -1, v), -1);
            Due.is("fault", x.fault(v), -1);
            Due.is("set", x.set(v, 1), false);
        }
    }
}
