/** Promises 17 to 20: cleared, first, tour and share, by hand. */
public final class PlansTest {
    public static void main(String[] args) {
        clearing();
        clearingOfTen();
        paying();
        payingInTies();
        tours();
        shares();
        Due.finish();
    }

    private static PaidWhereMade town(int spots, int people) {
        PaidWhereMade x = new PaidWhereMade();
        for (int s = 0; s < spots; s++) {
            x.spot(0);
        }
        for (int p = 0; p < people; p++) {
            x.person(p % spots, 0, 0);
        }
        return x;
    }

    private static void clearing() {
        PaidWhereMade x = town(3, 6);
        Due.is("nothing open", x.cleared(0), 0);
        Due.is("nothing open", x.cleared(10), -1);
        x.debt(0, 1, 5, 0);
        x.debt(1, 2, 5, 0);
        x.debt(2, 3, 5, 1);
        x.debt(4, 5, 5, 2);
        Due.is("cleared(0)", x.cleared(0), 2);
        Due.is("the greatest first", x.cleared(10), 13);
        Due.is("the rest", x.cleared(11), 2);
        Due.is("no third", x.cleared(12), -1);
        Due.is("cleared(9)", x.cleared(9), -1);
        Due.is("cleared(-1)", x.cleared(-1), -1);
        Feeding.law(x, "bar;");
        Due.is("the law is not asked", x.cleared(0), 2);
    }

    private static void clearingOfTen() {
        PaidWhereMade x = town(10, 2);
        x.person(0, 99999, 0);
        x.person(0, 0, 0);
        x.debt(2, 3, 1, 0);
        Due.is("sunday()", x.sunday(), 1);
        for (int s = 0; s < 10; s++) {
            x.debt(0, 1, 5, s);
        }
        Due.is("each on its own spot", x.cleared(0), 10);
        for (int k = 0; k < 10; k++) {
            Due.is("only open debts count", x.cleared(10 + k), 512 >> k);
        }
        Due.is("cleared(20)", x.cleared(20), -1);
        x.debt(0, 1, 5, 0);
        Due.is("eleven open", x.cleared(0), -1);
        Due.is("eleven open", x.cleared(10), -1);
    }

    private static void paying() {
        PaidWhereMade x = town(2, 3);
        x.debt(0, 1, 10, 0);
        x.debt(1, 2, 999, 0);
        x.debt(0, 2, 100, 1);
        x.debt(0, 1, 50, 1);
        Due.is("without a rate", x.first(0, 0), 160);
        int[] byNumber = {0, 2, 3};
        for (int i = 0; i < 3; i++) {
            Due.is("by number", x.first(0, 10 + i), byNumber[i]);
        }
        x.set(1, 50);
        Due.is("100 + 75 + 22", x.first(0, 0), 197);
        int[] row = {2, 3, 0, -1};
        for (int i = 0; i < 4; i++) {
            Due.is("first(0, " + (10 + i) + ")", x.first(0, 10 + i), row[i]);
        }
        Due.is("one debt", x.first(1, 0), 999);
        Due.is("no debt", x.first(2, 0), 0);
        Due.is("no debt", x.first(2, 10), -1);
        Due.is("nobody", x.first(3, 0), -1);
        Due.is("nobody", x.first(-1, 0), -1);
        Due.is("first(0, 9)", x.first(0, 9), -1);
        Due.is("first(0, 1)", x.first(0, 1), -1);
        for (int i = 0; i < 5; i++) {
            x.debt(0, 1, 1, 0);
        }
        Due.is("eight", x.first(0, 0), 202);
        x.debt(0, 1, 1, 0);
        Due.is("nine", x.first(0, 0), -1);
    }

    private static void payingInTies() {
        PaidWhereMade x = town(1, 2);
        x.set(1, 10);
        x.debt(0, 1, 9, 0);
        x.debt(0, 1, 20, 0);
        x.debt(0, 1, 5, 0);
        // 9 never grows, 5 never grows: 20 must be first, then the lesser number
        Due.is("first(0, 0)", x.first(0, 0), 34);
        int[] row = {1, 0, 2};
        for (int i = 0; i < 3; i++) {
            Due.is("first(0, " + (10 + i) + ")", x.first(0, 10 + i), row[i]);
        }
        PaidWhereMade y = town(1, 2);
        y.set(1, 99);
        y.set(3, 1);
        y.debt(0, 1, 9999, 0);
        y.debt(0, 1, 9999, 0);
        y.pass(5);
        Due.is("grown to the most", y.owed(1, 2), 99999);
        Due.is("first() tells no most", y.first(0, 0), 99999 + 99999 + 98999);
    }

    private static void tours() {
        PaidWhereMade x = town(5, 0);
        x.way(0, 1, 1);
        x.way(1, 2, 2);
        x.way(2, 3, 3);
        x.way(3, 0, 4);
        x.way(0, 2, 50);
        x.way(1, 3, 50);
        Due.is("round the square", x.tour(0, 15), 10);
        Due.is("without itself told", x.tour(0, 14), 10);
        Due.is("no way over others", x.tour(0, 4), 100);
        Due.is("three", x.tour(0, 6), 53);
        Due.is("none", x.tour(0, 0), 0);
        Due.is("itself", x.tour(4, 16), 0);
        Due.is("no such spot", x.tour(0, 32), -1);
        Due.is("no such spot", x.tour(0, 33), -1);
        Due.is("below 0", x.tour(0, -1), -1);
        Due.is("from none", x.tour(5, 1), -1);
        Due.is("from none", x.tour(-1, 1), -1);
        PaidWhereMade y = town(10, 0);
        for (int a = 0; a < 10; a++) {
            for (int b = 0; b < a; b++) {
                y.way(a, b, 20 + Math.abs(a * 7 % 10 - b * 7 % 10));
            }
        }
        Due.is("ten in a row and back", y.tour(3, 1023), 200 + 18);
    }

    private static void shares() {
        PaidWhereMade x = town(4, 8);
        x.way(0, 1, 10);
        x.way(0, 2, 10);
        x.way(1, 2, 5);
        // 1 alone 20, 2 alone 20, both 25
        Due.is("above", x.share(0, 6, 1, 0), 25);
        Due.is("below", x.share(0, 6, 1, 1), 2);
        Due.is("alone above", x.share(0, 2, 1, 0), 20);
        Due.is("alone below", x.share(0, 2, 1, 1), 1);
        Due.is("at the spot above", x.share(0, 7, 0, 0), 0);
        Due.is("at the spot below", x.share(0, 7, 0, 1), 1);
        // 1 and 5 live on one spot: 20 by two
        Due.is("two of one home", x.share(0, 34, 5, 0), 10);
        Due.is("two of one home", x.share(0, 34, 5, 1), 1);
        Due.is("not in it", x.share(0, 6, 0, 0), -1);
        Due.is("nobody in it", x.share(0, 0, 0, 0), -1);
        Due.is("six", x.share(0, 63, 0, 1), 1);
        Due.is("seven", x.share(0, 127, 0, 0), -1);
        Due.is("no such person", x.share(0, 257, 0, 0), -1);
        Due.is("below 0", x.share(0, -1, 0, 0), -1);
        Due.is("from none", x.share(4, 6, 1, 0), -1);
        Due.is("share what 2", x.share(0, 6, 1, 2), -1);
        Due.is("share what -1", x.share(0, 6, 1, -1), -1);
        x.way(0, 2, 99);
        x.way(1, 2, 0);
        x.way(0, 1, 1);
        // 1 alone 2, 2 alone 198, both 100: 1 has (2 + 100 - 198) / 2
        Due.is("less than nothing", x.share(0, 6, 1, 0), -48);
        Due.is("below", x.share(0, 6, 1, 1), 1);
    }
}
