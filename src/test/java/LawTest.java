/** Promises 9 to 12: the tape, the law's text and its faults, by hand. */
public final class LawTest {
    public static void main(String[] args) {
        tape();
        faults();
        counts();
        depths();
        answers();
        stays();
        Due.finish();
    }

    private static void tape() {
        PaidWhereMade x = new PaidWhereMade();
        for (int i = 1; i <= 20; i++) {
            Due.is("feed", x.feed(0, 0, 0, 0, 0), 20 * i);
        }
        Due.is("feed beyond 400", x.feed(0, 0, 0, 0, 0), -1);
        Due.is("end(401)", x.end(401), false);
        Due.is("end(-1)", x.end(-1), false);
        Due.is("end(381)", x.end(381), true);
        Due.is("feed beyond 400", x.feed(0, 0, 0, 0, 0), -1);
        Due.is("end(382)", x.end(382), false);
        Due.is("end(380)", x.end(380), true);
        Due.is("feed to 400", x.feed(0, 0, 0, 0, 0), 400);
        Due.is("end(400)", x.end(400), true);
        Due.is("end(0)", x.end(0), true);
        Due.is("end(0) again", x.end(0), true);
        Due.is("end(1)", x.end(1), false);
        Due.is("text() of nothing", x.text(), 0);
        // "bar;" and blanks: the highest byte first
        Due.is("feed", x.feed(0x6261723b, 0x20202020, 0x0a0a0a0a, 0x20202020, 0x20202020), 20);
        Due.is("text()", x.text(), 1);
        Due.is("the tape is empty then", x.end(1), false);
        x.feed(-1, -1, -1, -1, -1);
        Due.is("text() of no signs", x.text(), -1);
        Due.is("the tape is empty behind a fault too", x.feed(0, 0, 0, 0, 0), 20);
    }

    private static void fault(String text, int what, int place) {
        PaidWhereMade x = new PaidWhereMade();
        Due.is("text() of [" + text + "]", Feeding.law(x, text), -1);
        Due.is("fault(0) of [" + text + "]", x.fault(0), what);
        Due.is("fault(1) of [" + text + "]", x.fault(1), place);
        Due.is("look(8)", x.look(8), 0);
        Feeding.law(x, "");
        Due.is("fault(0) of nothing", x.fault(0), 0);
        Due.is("fault(1) of nothing", x.fault(1), -1);
    }

    private static void faults() {
        fault("x", 1, 0);
        fault("payx;", 1, 0);
        fault("payX;", 1, 0);
        fault("PAY;", 1, 0);
        fault("pay1;", 1, 3);
        fault("pay", 1, 3);
        fault("pay \n ", 1, 6);
        fault(" ;", 1, 1);
        fault("pay;;", 1, 4);
        fault("pay\t;", 1, 3);
        fault("pay when", 1, 8);
        fault("pay when;", 1, 8);
        fault("pay when 1;", 1, 10);
        fault("pay when 1<;", 1, 11);
        fault("pay when 1<2<3;", 1, 12);
        fault("pay when (1)<2;", 1, 11);
        fault("pay when 1<(2);", 1, 11);
        fault("pay when (1<2;", 1, 13);
        fault("pay when 1<2);", 1, 12);
        fault("pay when 1<2 and;", 1, 16);
        fault("pay when or 1<2;", 1, 9);
        fault("pay when 1<2 not 1<2;", 1, 13);
        fault("pay when -1<2;", 1, 9);
        fault("pay when 1<12345;", 1, 11);
        fault("pay when 1+<2;", 1, 11);
        fault("pay when 1<2 or pay;", 1, 16);
        fault("pay when 1*/2<3;", 1, 11);
        fault("pay when coins/age<3;", 1, 15);
        fault("pay when 1/00000<3;", 1, 11);
        fault("pay when 1/0<3;", 2, 11);
        fault("pay when 1/ 000 x;", 2, 12);
        fault("pay when 1/0000<3; x", 2, 11);
        fault("pay when x<1/0;", 1, 9);
        fault("pay when" + (char) 233 + ";", 1, 8);
        fault("pay" + (char) 0 + ";", 1, 3);
    }

    private static void counts() {
        PaidWhereMade x = new PaidWhereMade();
        String sixteen = "pay;".repeat(8) + "bar;".repeat(8);
        Due.is("sixteen lines", Feeding.law(x, sixteen), 16);
        Due.is("look(8)", x.look(8), 16);
        fault(sixteen + " pay;", 3, 65);
        fault(sixteen + "bar", 3, 64);
        fault(sixteen + " ;", 1, 65);
        Due.is("two lines", Feeding.law(x, "pay when 1<2or 2<3and 4>3;\nbar;"), 2);
        Due.is("400 bytes", Feeding.law(x, " ".repeat(396) + "pay;"), 1);
        Due.is("as many tokens as can be", Feeding.law(x, "pay when1" + "+1".repeat(194) + "=1;"), 1);
        fault(";".repeat(400), 1, 0);
        fault("pay when 1" + "+1".repeat(195), 1, 400);
    }

    private static void depths() {
        PaidWhereMade x = new PaidWhereMade();
        Due.is("8 not", Feeding.law(x, "pay when " + "not ".repeat(8) + "1=1;"), 1);
        Due.is("8 (", Feeding.law(x, "pay when " + "(".repeat(8) + "1=1" + ")".repeat(8) + ";"), 1);
        Due.is("8 of both", Feeding.law(x, "pay when " + "not(".repeat(4) + "1=1" + ")".repeat(4) + ";"), 1);
        Due.is("not all open", Feeding.law(x, "bar when " + "not 1=1 or ".repeat(10) + "(1=1) and (1=2);"), 1);
        Due.is("closed by )", Feeding.law(x,
            "bar when not(not(not not not not 1=1)) and " + "not ".repeat(8) + "1=1;"),
            1);
        fault("pay when " + "(".repeat(9) + "1=1" + ")".repeat(9) + ";", 3, 17);
        fault("pay when " + "not ".repeat(9) + "1=1;", 3, 41);
        fault("pay when " + "not(".repeat(4) + " not 1=1;", 3, 26);
        fault("pay when " + "not(".repeat(4) + "1=1 and (", 3, 33);
        fault("pay when (((((((1=1 and not (", 3, 28);
    }

    /** Debts on spot 2 of one aged 40 with 1000 coins, 3 people there, on Sunday 5, made on Sunday 3. */
    private static PaidWhereMade town() {
        PaidWhereMade x = new PaidWhereMade();
        x.spot(0);
        x.spot(0);
        x.spot(0);
        x.person(0, 5, 5);
        x.person(2, 1000, 40);
        x.person(2, 7, 7);
        x.person(2, 8, 8);
        x.pass(3);
        x.debt(1, 0, 77, 2);
        x.pass(2);
        return x;
    }

    private static void lets(String text, boolean want) {
        PaidWhereMade x = town();
        Due.is("text() of [" + text + "]", Feeding.law(x, text) >= 0, true);
        Due.is("owed(0, 7) by [" + text + "]", x.owed(0, 7) == 1, want);
        x.goal(0, 2);
        Due.is("sunday() by [" + text + "]", x.sunday(), want && !text.contains("here") ? 1 : x.owed(0, 6));
    }

    private static void holds(String condition, boolean want) {
        lets("pay when " + condition + "; bar;", want);
        lets("bar when " + condition + ";", !want);
        lets("bar when not " + condition + ";", want);
    }

    private static void answers() {
        lets("", true);
        lets("bar;", false);
        lets("pay; bar;", true);
        lets("bar when 1=2;", true);
        lets("bar when 1=2; pay when 1=1; bar;", true);
        holds("coins=77", true);
        holds("age=2", true);
        holds("purse=1000", true);
        holds("spot=2", true);
        holds("years=40", true);
        holds("here=3", true);
        holds("debtor=1", true);
        holds("creditor=0", true);
        holds("sunday=5", true);
        holds("(1=2 and 1=2 or 1=1)", true);
        holds("(1=1 or 1=1 and 1=2)", true);
        holds("((1=1 or 1=1) and 1=2)", false);
        holds("(1=1 or 1=2 or 1=2)", true);
        holds("(1=1 and 1=1 or 1=2 and 1=2)", true);
        holds("(" + "1=2 or 1=1 and (".repeat(6) + "1=2 or 1=1 and 9=1+2*4" + ")".repeat(7), true);
        holds("2+3*4=14", true);
        holds("1" + "+1".repeat(150) + "=151", true);
        holds("2*3+4=10", true);
        holds("10-4-3=3", true);
        holds("10-4+3=9", true);
        holds("1-2*3-4*5=0-25", true);
        holds("7/2*2=6", true);
        holds("2*7/2=7", true);
        holds("100/5/4=5", true);
        holds("3-10/4=1", true);
        holds("0-7<0", true);
        holds("1<1", false);
        holds("1>1", false);
        holds("2>1", true);
        holds("9999*9999*9999=" + side(9999 * 9999 * 9999), true);
        holds("coins-84/2=35+1*0", true);
        holds("9999*9999*99/7=" + side(9999 * 9999 * 99 / 7), true);
        holds("9999*9999*99/7/9999/10=" + side(9999 * 9999 * 99 / 7 / 9999 / 10), true);
        holds("0*9-7/2+0=0-3", true);
        // towards 0: a product below 0 is parted
        holds("9999*9999*22/9999/9=" + side(9999 * 9999 * 22 / 9999 / 9), true);
    }

    /** A number of any size, told by numbers of four digits at most. */
    private static String side(int v) {
        int a = Math.abs(v);
        String sign = v < 0 ? "-" : "+";
        return "0" + sign + a / 1000000 + "*1000*1000" + sign + a / 1000 % 1000 + "*1000" + sign + a % 1000;
    }

    private static void stays() {
        PaidWhereMade x = town();
        Due.is("text()", Feeding.law(x, "bar;pay;"), 2);
        Due.is("text() with a fault", Feeding.law(x, "pay;pay"), -1);
        Due.is("the law stays", x.look(8), 2);
        Due.is("the law stays", x.owed(0, 7), 0);
        Due.is("fault(0)", x.fault(0), 1);
        Due.is("fault(1)", x.fault(1), 7);
        Due.is("fault(-1)", x.fault(-1), -1);
        Due.is("text() of nothing", x.text(), 0);
        Due.is("the law is empty", x.owed(0, 7), 1);
    }
}
