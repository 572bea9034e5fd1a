/** Towns that tests begin with, made by few calls: an object is promised 512. */
final class Towns {
    private Towns() {
    }

    /** Spots without a price, and people who all have their home on spot 0. */
    static PaidWhereMade plain(int spots, int people, int coin) {
        PaidWhereMade x = new PaidWhereMade();
        for (int s = 0; s < spots; s++) {
            x.spot(0);
        }
        for (int p = 0; p < people; p++) {
            x.person(0, coin, 30);
        }
        return x;
    }

    /** Something of all that can be told: three spots and people, debts, an image, a fault, a law and a tape. */
    static PaidWhereMade busy() {
        PaidWhereMade x = new PaidWhereMade();
        x.state(4711);
        x.spot(0);
        x.spot(3);
        x.spot(99);
        x.way(0, 1, 12);
        x.way(1, 2, 30);
        x.person(0, 100, 40);
        x.person(1, 50, 70);
        x.person(2, 10, 20);
        x.debt(0, 1, 30, 1);
        x.debt(1, 2, 25, 2);
        x.debt(2, 0, 5, 0);
        x.set(0, 30);
        x.set(1, 10);
        x.set(2, 1);
        x.set(3, 2);
        x.chance(0, 0, 50);
        x.chance(1, 0, 30);
        x.chance(2, 3, 100);
        x.line(5, 0, -1, 1);
        x.line(5, 0, -1, 2);
        x.line(5, 0, 1, -1);
        Feeding.law(x, "bar when coins>9000;pay;");
        x.goal(0, 1);
        x.sunday();
        x.image(true);
        x.debt(0, 2, 11, 0);
        Feeding.law(x, "bar when 1/0=1;");
        Feeding.put(x, Feeding.bytes("bar;"));
        x.goal(0, 1);
        x.goal(1, 0);
        return x;
    }

    /** Ten spots and people, thirty debts and lines, and a tape of 400 bytes. */
    static PaidWhereMade full() {
        PaidWhereMade x = new PaidWhereMade();
        for (int i = 0; i < 10; i++) {
            x.spot(i);
        }
        for (int i = 0; i < 10; i++) {
            x.person(i, 100 * i, i);
        }
        for (int i = 0; i < 30; i++) {
            x.debt(i % 10, (i + 1) % 10, 1 + i, i % 7);
            x.line(i / 4, i % 10, -1, i % 3);
        }
        Feeding.put(x, Feeding.bytes("pay;" + " ".repeat(396)));
        x.goal(3, 4);
        return x;
    }

    /** The busy town on Sunday 9999. */
    static PaidWhereMade last() {
        PaidWhereMade x = busy();
        for (int i = 0; i < 24; i++) {
            x.pass(400);
        }
        x.pass(398);
        x.goal(0, 1);
        x.goal(1, 0);
        return x;
    }
}
