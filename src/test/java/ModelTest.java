import java.util.Random;

/** Runs of drawn calls on the class and on Model: every answer of both must be the same. */
public final class ModelTest {
    private static final int RUNS = 900;
    private static final int[] EDGES = {-2, -1, 0, 1, 2, 9, 10, 11, 29, 30, 31, 99, 100, 101, 1023, 1024, 9999, 10000,
        99999, 100000, Integer.MAX_VALUE, Integer.MIN_VALUE};
    private static final String[] PIECES = {"pay", "bar", "when", "or", "and", "not", "coins", "age", "purse", "spot",
        "years", "here", "debtor", "creditor", "sunday", ";", "+", "-", "*", "/", "(", ")", "<", "=", ">", "0", "1",
        "12", "9999", "12345", "x", "payx", "Pay", "$", "\t", "\n", " ", "/0", "/ 00", "not", "(", "bar;", "pay;"};
    private static final String[] FACTS = {"coins", "age", "purse", "spot", "years", "here", "debtor", "creditor",
        "sunday"};

    private final Random random;
    private final PaidWhereMade x = new PaidWhereMade();
    private final Model m = new Model();
    private final int mostSpots;
    private final int mostPeople;
    private final int run;
    private int calls;

    private ModelTest(int run) {
        this.run = run;
        random = new Random(run);
        mostSpots = 1 + random.nextInt(run % 10 == 0 ? 10 : 5);
        mostPeople = 1 + random.nextInt(run % 3 == 0 ? 10 : 5);
    }

    public static void main(String[] args) {
        for (int run = 0; run < RUNS && Due.count() == 0; run++) {
            new ModelTest(run).go();
        }
        Due.finish();
    }

    private int below(int n) {
        return random.nextInt(n);
    }

    /** Mostly a number below n, now and then one from the edges. */
    private int some(int n) {
        return below(40) == 0 ? EDGES[below(EDGES.length)] : below(n);
    }

    private void same(String call, long got, long want) {
        if (want != Model.TOO_MUCH) {
            Due.is("run " + run + " call " + calls + ": " + call, got, want);
        }
    }

    private void go() {
        x.state(run * 7919);
        m.state = run * 7919;
        for (int s = 0; s < mostSpots; s++) {
            tellSpot();
        }
        for (int p = 0; p < mostPeople; p++) {
            tellPerson();
        }
        for (calls = 0; calls < 380 && Due.count() == 0; calls++) {
            step();
        }
    }

    private void step() {
        int what = below(100);
        if (what < 40) {
            change(what);
        } else if (what < 60) {
            plan(what);
        } else {
            ask();
        }
    }

    private void change(int what) {
        if (what < 2) {
            tellWay();
        } else if (what < 14) {
            tellDebt();
        } else if (what < 17) {
            int k = some(4);
            int v = k == 0 ? some(101) * below(2) : k == 2 ? some(2) : k == 3 ? some(6) : some(100);
            same("set(" + k + ", " + v + ")", x.set(k, v) ? 1 : 0, m.set(k, v));
        } else if (what < 27) {
            tellGoals();
        } else if (what < 33) {
            same("sunday()", x.sunday(), m.goSunday());
        } else if (what < 35) {
            int n = below(6) == 0 ? some(402) : some(9);
            same("pass(" + n + ")", x.pass(n), m.pass(n));
        } else if (what < 38) {
            tellLaw();
        } else {
            moreRarely();
        }
    }

    private void moreRarely() {
        switch (below(8)) {
            case 0:
                tellSpot();
                break;
            case 1:
                tellPerson();
                break;
            case 2:
                int v = random.nextInt();
                same("state(" + v + ")", x.state(v), m.state);
                m.state = v;
                break;
            default:
                boolean taken = below(3) == 0;
                same("image(" + taken + ")", x.image(taken) ? 1 : 0, m.image(taken));
        }
    }

    private void tellSpot() {
        int price = some(below(2) * 30 + 1);
        same("spot(" + price + ")", x.spot(price), m.spot(price));
    }

    private void tellPerson() {
        int home = some(mostSpots);
        int coin = some(below(2) == 0 ? 30 : 5000);
        int age = some(100);
        same("person(" + home + ", " + coin + ", " + age + ")", x.person(home, coin, age), m.person(home, coin, age));
    }

    private void tellWay() {
        int a = some(mostSpots);
        int b = some(mostSpots);
        int miles = some(100);
        same("way(" + a + ", " + b + ", " + miles + ")", x.way(a, b, miles) ? 1 : 0, m.way(a, b, miles));
    }

    private void tellDebt() {
        if (m.debts.size() - m.settings[2] * 20 > 9 && below(3) > 0) {
            return;
        }
        int debtor = some(mostPeople);
        int creditor = some(mostPeople);
        int coins = some(below(3) == 0 ? 9999 : 12);
        int spot = some(below(2) == 0 ? 1 : mostSpots);
        same("debt(" + debtor + ", " + creditor + ", " + coins + ", " + spot + ")",
            x.debt(debtor, creditor, coins, spot), m.debt(debtor, creditor, coins, spot));
    }

    private void tellGoals() {
        int spot = some(mostSpots);
        for (int p = 0; p < mostPeople; p++) {
            if (below(3) > 0) {
                same("goal(" + p + ", " + spot + ")", x.goal(p, spot) ? 1 : 0, m.goal(p, spot));
            }
        }
        int p = some(mostPeople);
        same("goal(" + p + ", " + spot + ")", x.goal(p, spot) ? 1 : 0, m.goal(p, spot));
    }

    private void tellLaw() {
        String text = below(4) == 0 ? drawnPieces() : spoilt(drawnLaw());
        int[] bytes = Feeding.bytes(text.length() > 400 ? text.substring(0, 400) : text);
        Feeding.put(x, bytes);
        same("text() of [" + text + "]", x.text(), m.text(bytes));
        for (int what = -1; what < 3; what++) {
            same("fault(" + what + ") of [" + text + "]", x.fault(what), m.fault(what));
        }
    }

    private String drawnPieces() {
        StringBuilder text = new StringBuilder();
        int pieces = below(20);
        for (int i = 0; i < pieces; i++) {
            text.append(PIECES[below(PIECES.length)]).append(below(2) == 0 ? " " : "");
        }
        return text.toString();
    }

    private String drawnLaw() {
        StringBuilder text = new StringBuilder();
        int lines = below(8) == 0 ? below(20) : below(4);
        for (int i = 0; i < lines; i++) {
            text.append(below(2) == 0 ? "pay" : "bar");
            if (below(8) > 0 && lines < 10) {
                text.append(" when ").append(any(below(8)));
            }
            text.append(below(2) == 0 ? ";" : " ; ");
        }
        return text.toString();
    }

    private String any(int depth) {
        StringBuilder text = new StringBuilder(condition(depth));
        for (int i = 0; i < 3 && below(3) == 0; i++) {
            text.append(below(2) == 0 ? " or " : " and\n").append(condition(depth));
        }
        return text.toString();
    }

    private String condition(int depth) {
        int what = depth > 0 ? below(3) : 3;
        if (what == 0) {
            return "not " + condition(depth - 1);
        }
        return what == 1 ? "(" + any(depth - 1) + ")" : side() + "<=>".charAt(below(3)) + side();
    }

    private String side() {
        StringBuilder text = new StringBuilder(unit());
        for (int i = 0; i < 4 && below(2) == 0; i++) {
            int sign = below(4);
            text.append("+-*/".charAt(sign)).append(sign == 3 ? Integer.toString(1 + below(20)) : unit());
        }
        return text.toString();
    }

    private String unit() {
        return below(3) == 0 ? Integer.toString(below(below(2) == 0 ? 12 : 10000)) : FACTS[below(FACTS.length)];
    }

    private String spoilt(String text) {
        if (below(2) == 0) {
            return text;
        }
        StringBuilder spoilt = new StringBuilder(text);
        int at = below(text.length() + 1);
        switch (below(4)) {
            case 0:
                spoilt.setLength(at);
                break;
            case 1:
                spoilt.insert(at, PIECES[below(PIECES.length)]);
                break;
            case 2:
                spoilt.insert(at, (char) below(256));
                break;
            default:
                spoilt.delete(at, Math.min(text.length(), at + 1 + below(3)));
        }
        return spoilt.toString();
    }

    private void plan(int what) {
        int from = some(mostSpots);
        if (what < 44) {
            int asked = below(2) == 0 ? 0 : some(16);
            same("cleared(" + asked + ")", x.cleared(asked), m.cleared(asked));
        } else if (what < 47) {
            int p = some(mostPeople);
            int asked = below(2) == 0 ? 0 : some(18);
            same("first(" + p + ", " + asked + ")", x.first(p, asked), m.first(p, asked));
        } else if (what < 49) {
            int set = some(1 << mostSpots);
            same("tour(" + from + ", " + set + ")", x.tour(from, set), m.tour(from, set));
        } else if (what < 51) {
            int set = some(1 << mostPeople);
            int p = some(mostPeople);
            int asked = some(3);
            same("share(" + from + ", " + set + ", " + p + ", " + asked + ")", x.share(from, set, p, asked),
                m.share(from, set, p, asked));
        } else if (what < 54) {
            int hour = some(8);
            int v = below(4) == 0 ? 100 : some(101);
            same("chance(" + from + ", " + hour + ", " + v + ")", x.chance(from, hour, v) ? 1 : 0,
                m.chance(from, hour, v));
        } else if (what < 57) {
            int n = some(9);
            for (int asked = -1; asked < 20; asked++) {
                same("waiting(" + from + ", " + n + ", " + asked + ")", x.waiting(from, n, asked),
                    m.waiting(from, n, asked));
                asked += asked == 0 ? 8 : 0;
            }
        } else {
            tellLine();
        }
    }

    private void tellLine() {
        int day = some(3);
        int a = some(mostPeople);
        boolean meets = below(2) == 0;
        int b = meets ? some(mostPeople) : -1;
        int spot = meets ? -1 : some(mostSpots);
        same("line(" + day + ", " + a + ", " + b + ", " + spot + ")", x.line(day, a, b, spot), m.line(day, a, b, spot));
        same("wrong(" + day + ")", x.wrong(day), m.wrong(day));
    }

    private void ask() {
        int p = some(mostPeople);
        int what = some(8);
        same("of(" + p + ", " + what + ")", x.of(p, what), m.of(p, what));
        int d = some(Math.max(1, m.debts.size()));
        what = some(8);
        same("owed(" + d + ", " + what + ")", x.owed(d, what), m.owed(d, what));
        what = some(25);
        same("look(" + what + ")", x.look(what), m.look(what));
    }
}
