/** Promises 23 and 24: line and wrong, by hand. */
public final class LinesTest {
    public static void main(String[] args) {
        lines();
        wrongs();
        meetings();
        sixNamed();
        Due.finish();
    }

    private static PaidWhereMade town(int spots, int people) {
        PaidWhereMade x = new PaidWhereMade();
        for (int s = 0; s < spots; s++) {
            x.spot(0);
        }
        for (int p = 0; p < people; p++) {
            x.person(0, 0, 0);
        }
        return x;
    }

    private static void lines() {
        PaidWhereMade x = town(2, 2);
        Due.is("both", x.line(0, 0, 1, 1), -1);
        Due.is("neither", x.line(0, 0, -1, -1), -1);
        Due.is("met himself", x.line(0, 1, 1, -1), -1);
        Due.is("nobody", x.line(0, 2, -1, 1), -1);
        Due.is("nobody", x.line(0, -1, -1, 1), -1);
        Due.is("met nobody", x.line(0, 0, 2, -1), -1);
        Due.is("met -2", x.line(0, 0, -2, -1), -1);
        Due.is("nowhere", x.line(0, 0, -1, 2), -1);
        Due.is("at -2", x.line(0, 0, -1, -2), -1);
        Due.is("met at -2", x.line(0, 0, 1, -2), -1);
        Due.is("Sunday -1", x.line(-1, 0, -1, 1), -1);
        Due.is("Sunday 10000", x.line(10000, 0, -1, 1), -1);
        Due.is("look(7)", x.look(7), 0);
        for (int i = 0; i < 30; i++) {
            Due.is("line", x.line(9999 - i, i % 2, i < 15 ? -1 : 1 - i % 2, i < 15 ? 1 : -1), i);
        }
        Due.is("a thirty-first", x.line(0, 0, -1, 1), -1);
        Due.is("look(7)", x.look(7), 30);
    }

    private static void wrongs() {
        PaidWhereMade x = town(3, 3);
        Due.is("no lines", x.wrong(0), 0);
        Due.is("wrong(9999)", x.wrong(9999), 0);
        Due.is("wrong(10000)", x.wrong(10000), -1);
        Due.is("wrong(-1)", x.wrong(-1), -1);
        x.line(4, 0, -1, 0);
        Due.is("one", x.wrong(4), 0);
        x.line(4, 0, -1, 1);
        Due.is("two spots", x.wrong(4), 1);
        x.line(4, 0, -1, 2);
        Due.is("three spots", x.wrong(4), 2);
        x.line(4, 0, -1, 2);
        Due.is("one of them twice", x.wrong(4), 2);
        x.line(5, 0, -1, 1);
        Due.is("another Sunday", x.wrong(5), 0);
        Due.is("another Sunday", x.wrong(4), 2);
    }

    private static void meetings() {
        PaidWhereMade x = town(3, 5);
        x.line(1, 0, -1, 0);
        x.line(1, 4, -1, 2);
        for (int p = 0; p < 4; p++) {
            x.line(1, p, p + 1, -1);
        }
        Due.is("a chain from spot to spot", x.wrong(1), 1);
        x.line(1, 0, -1, 0);
        x.line(1, 4, -1, 2);
        x.line(1, 1, -1, 0);
        Due.is("told twice", x.wrong(1), 1);
        x.line(1, 0, 4, -1);
        Due.is("they met too", x.wrong(1), 2);
        x.line(1, 2, -1, 1);
        Due.is("the middle stood elsewhere", x.wrong(1), 3);
        PaidWhereMade y = town(1, 2);
        y.line(0, 0, 1, -1);
        y.line(0, 1, 0, -1);
        Due.is("only met", y.wrong(0), 0);
    }

    private static void sixNamed() {
        PaidWhereMade x = town(2, 6);
        for (int p = 0; p < 4; p++) {
            x.line(7, p, -1, p % 2);
        }
        x.line(7, 4, 0, -1);
        Due.is("five", x.wrong(7), 0);
        x.line(7, 4, -1, 1);
        Due.is("five", x.wrong(7), 1);
        x.line(7, 0, 5, -1);
        Due.is("six, one of them only met", x.wrong(7), -1);
        Due.is("another Sunday", x.wrong(6), 0);
    }
}
