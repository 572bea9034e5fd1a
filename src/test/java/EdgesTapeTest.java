/** Promises 9 to 12 with part 3 of the terms: a test of its own for each sentence that names a boundary. */
public final class EdgesTapeTest {
    private static final int BLANK = 0x20202020;
    private static final int PAY = 0x7061793b;
    private static final int LEAST = Integer.MIN_VALUE;
    private static final int MOST = Integer.MAX_VALUE;
    private static final String SIXTEEN = "pay;".repeat(16);

    public static void main(String[] args) {
        highestByteFirst();
        fourHundredBytes();
        firstBytesAlone();
        tapeIsEmptyThen();
        lawStaysAsItWas();
        faultOfTheLatestText();
        emptyText();
        lettersTogether();
        digitsTogether();
        blanksBetween();
        signsThatAreNone();
        cannotStand();
        theEndIsTheLength();
        partBy0();
        seventeenthLine();
        ninthOpen();
        firstByPlace();
        leastAtOnePlace();
        intsWrap();
        partGoesTowards0();
        firstLineThatIsSo();
        andBindsMoreThanOr();
        factsAtTheirEdges();
        Due.finish();
    }

    /** "Twenty bytes come behind the TAPE, of each number the highest first: how many it has." */
    private static void highestByteFirst() {
        PaidWhereMade x = new PaidWhereMade();
        Due.is("feed", x.feed(0x62617220, 0x7768656e, 0x20312b32, 0x3d332061, 0x6e642032), 20);
        Due.is("feed", x.feed(0x3c333b70, 0x61793b20, BLANK, 0x0a0a0a0a, BLANK), 40);
        Due.is("[bar when 1+2=3 and 2<3;pay;]", x.text(), 2);
        x.feed(PAY, -1, -1, -1, -1);
        Due.is("bytes without sign", x.text(), -1);
        Due.is("the first byte of the second number", x.fault(1), 4);
        x.feed(PAY, PAY, PAY, PAY, 0x70617924);
        Due.is("the last byte", x.text(), -1);
        Due.is("the last byte of the fifth number", x.fault(1), 19);
    }

    /** "NONE, and nothing comes, if there would be more than 400." */
    private static void fourHundredBytes() {
        PaidWhereMade x = new PaidWhereMade();
        for (int i = 1; i <= 20; i++) {
            Due.is("feed", x.feed(PAY, BLANK, BLANK, BLANK, BLANK), 20 * i);
        }
        Due.is("a 21st", x.feed(PAY, BLANK, BLANK, BLANK, BLANK), -1);
        Due.is("still 400", x.end(400), true);
        Due.is("not 401", x.end(401), false);
        Refusing.is("feed of a full tape", Towns::full, y -> y.feed(1, 2, 3, 4, 5), -1);
        for (int n = 399; n >= 381; n--) {
            Due.is("end(" + n + ")", x.end(n), true);
            Due.is("feed at " + n, x.feed(0, 0, 0, 0, 0), -1);
            Due.is("nothing came at " + n, x.end(n + 1), false);
        }
        Due.is("end(380)", x.end(380), true);
        Due.is("feed at 380", x.feed(BLANK, BLANK, BLANK, BLANK, PAY), 400);
        Due.is("text() of 400", x.text(), -1);
        Due.is("the seventeenth line", x.fault(1), 320);
        PaidWhereMade z = new PaidWhereMade();
        Due.is("a text of 400", Feeding.law(z, " ".repeat(396) + "pay;"), 1);
        Due.is("a text of 399", Feeding.law(z, "pay;" + "\n".repeat(395)), 1);
        Due.is("an odd length goes on", z.feed(PAY, PAY, PAY, PAY, PAY), 20);
        Due.is("end(1)", z.end(1), true);
        Due.is("an odd length goes on", z.feed(0x61793b20, BLANK, BLANK, BLANK, BLANK), 21);
        Due.is("p and ay;", z.text(), 1);
    }

    /** "true; false, changing nothing, if it has not so many, or n is below 0." */
    private static void firstBytesAlone() {
        for (int n : new int[] {LEAST, -20, -1, 5, 20, 400, 401, MOST}) {
            Refusing.isFalse("end(" + n + ")", Towns::busy, x -> x.end(n));
        }
        PaidWhereMade x = new PaidWhereMade();
        x.feed(PAY, PAY, PAY, PAY, PAY);
        Due.is("all of it", x.end(20), true);
        Due.is("one more", x.end(21), false);
        Due.is("twelve", x.end(12), true);
        Due.is("thirteen then", x.end(13), false);
        Due.is("text()", x.text(), 3);
        x.feed(PAY, PAY, PAY, PAY, PAY);
        Due.is("none", x.end(0), true);
        Due.is("none again", x.end(0), true);
        Due.is("one then", x.end(1), false);
        Due.is("feed begins anew", x.feed(BLANK, BLANK, BLANK, BLANK, PAY), 20);
        Due.is("what was cut is gone", x.text(), 1);
    }

    /** "The TAPE, empty then, is THE LAW". */
    private static void tapeIsEmptyThen() {
        PaidWhereMade x = new PaidWhereMade();
        x.feed(PAY, PAY, PAY, PAY, PAY);
        Due.is("text()", x.text(), 5);
        Due.is("empty", x.end(1), false);
        Due.is("text() again", x.text(), 0);
        Due.is("the law is empty", x.look(8), 0);
        x.feed(-1, 0, 0, 0, 0);
        Due.is("text() with a fault", x.text(), -1);
        Due.is("empty behind a fault", x.end(1), false);
        Due.is("and it begins anew", x.feed(0, 0, 0, 0, 0), 20);
    }

    /** "NONE: a FAULT (it stays as it was)." */
    private static void lawStaysAsItWas() {
        String[] faulty = {"x", "pay", "pay;pay when", "pay;pay;pay;;", SIXTEEN + "pay;", "pay when 1/0=1;"};
        for (String text : faulty) {
            PaidWhereMade x = Towns.plain(1, 2, 5);
            x.debt(0, 1, 11, 0);
            x.debt(0, 1, 12, 0);
            Due.is("the law", Feeding.law(x, "bar when coins=11;pay;bar;"), 3);
            Due.is("text() of [" + text + "]", Feeding.law(x, text), -1);
            Due.is("look(8)", x.look(8), 3);
            Due.is("barred", x.owed(0, 7), 0);
            Due.is("let", x.owed(1, 7), 1);
        }
    }

    /** "Of the latest text(): what 0 the FAULT (0 without one), 1 its place (NONE). NONE for another what." */
    private static void faultOfTheLatestText() {
        PaidWhereMade x = new PaidWhereMade();
        Due.is("ahead of any", x.fault(0), 0);
        Due.is("ahead of any", x.fault(1), -1);
        Feeding.law(x, "pay when 1/0=1;");
        Due.is("fault(0)", x.fault(0), 2);
        Due.is("fault(1)", x.fault(1), 11);
        Feeding.put(x, Feeding.bytes("pay"));
        Due.is("feed and end are no text()", x.fault(0), 2);
        x.text();
        Due.is("the latest", x.fault(0), 1);
        Due.is("the latest", x.fault(1), 3);
        Feeding.law(x, "pay;");
        Due.is("without one", x.fault(0), 0);
        Due.is("without one", x.fault(1), -1);
        for (int what : new int[] {LEAST, -1, 2, 3, MOST}) {
            Refusing.is("fault(" + what + ")", Towns::busy, y -> y.fault(what), -1);
        }
    }

    private static void fault(String text, int what, int place) {
        PaidWhereMade x = new PaidWhereMade();
        Due.is("text() of [" + text + "]", Feeding.law(x, text), -1);
        Due.is("fault(0) of [" + text + "]", x.fault(0), what);
        Due.is("fault(1) of [" + text + "]", x.fault(1), place);
    }

    private static void lines(String text, int want) {
        PaidWhereMade x = new PaidWhereMade();
        Due.is("text() of [" + text + "]", Feeding.law(x, text), want);
        Due.is("look(8) of [" + text + "]", x.look(8), want);
        Due.is("fault(0) of [" + text + "]", x.fault(0), 0);
        Due.is("fault(1) of [" + text + "]", x.fault(1), -1);
    }

    /** "THE LAW is a TEXT (empty at first)". */
    private static void emptyText() {
        lines("", 0);
        lines(" ", 0);
        lines("\n", 0);
        lines(" \n".repeat(200), 0);
        PaidWhereMade x = Towns.plain(1, 2, 5);
        x.debt(0, 1, 5, 0);
        Due.is("yes without a line", x.owed(0, 7), 1);
        Due.is("look(8)", x.look(8), 0);
    }

    /** "letters as many as stand together are KEYWORDS (those told here) or none". */
    private static void lettersTogether() {
        fault("p ay;", 1, 0);
        fault("paypay;", 1, 0);
        fault("pa;", 1, 0);
        fault("payy;", 1, 0);
        fault("pay whe;", 1, 4);
        fault("pay whencoins=1;", 1, 4);
        fault("pay when coin=1;", 1, 9);
        fault("pay when coinss=1;", 1, 9);
        fault("pay when 1=1 an 1=1;", 1, 13);
        fault("pay when 1=1 orr 1=1;", 1, 13);
        fault("pay when credito=1;", 1, 9);
        fault("a", 1, 0);
        fault("z", 1, 0);
        fault("pay A;", 1, 4);
        fault("pay Z;", 1, 4);
        fault("PAY;", 1, 0);
        fault("payZ;", 1, 0);
        fault("payz;", 1, 0);
        fault("paya;", 1, 0);
        fault("payA;", 1, 0);
        // what stands next to the letters is no letter
        fault("pay`;", 1, 3);
        fault("pay{;", 1, 3);
        fault("pay@;", 1, 3);
        fault("pay[;", 1, 3);
        lines("pay when coins<1or age>2and purse=3;", 1);
    }

    /** "digits as many as stand together NUMBERS of 1 to 4 digits or none". */
    private static void digitsTogether() {
        lines("pay when 0=9;", 1);
        lines("pay when 0000=9999;", 1);
        lines("pay when 0123=123;", 1);
        fault("pay when 10000=1;", 1, 9);
        fault("pay when 00000=1;", 1, 9);
        fault("pay when 1=00001;", 1, 11);
        fault("pay when 1=" + "9".repeat(389), 1, 11);
        fault("pay when 1 2=1;", 1, 11);
        fault("pay when 1=1 2;", 1, 13);
        fault("pay5;", 1, 3);
        fault("5pay;", 1, 0);
        // what stands next to the digits is no digit
        fault("pay when 1:=1;", 1, 10);
        lines("pay when 1/9=1;", 1);
        lets("0123=123", true);
        lets("9999=9998+1", true);
        lets("1000=999+1", true);
    }

    /** "Blanks (32, 10) between." */
    private static void blanksBetween() {
        lines("pay ;", 1);
        lines("pay\n;", 1);
        lines("\n pay \n when\n1 \n= 1 ; \n", 1);
        for (int sign : new int[] {0, 1, 9, 11, 12, 13, 31, 33, 127, 128, 133, 160, 255}) {
            fault("pay" + (char) sign + ";", 1, 3);
            fault((char) sign + "pay;", 1, 0);
            fault("pay;" + (char) sign, 1, 4);
        }
        fault("pay when 1 0/0 0=1;", 1, 11);
    }

    /** "; + - * / ( ) < = > ." and no other sign. */
    private static void signsThatAreNone() {
        for (int sign = 0; sign < 256; sign++) {
            boolean isOther = "0123456789;+-*/()<=> \n".indexOf(sign) < 0
                && !(sign >= 'a' && sign <= 'z') && !(sign >= 'A' && sign <= 'Z');
            if (isOther) {
                fault("pay when 1=1" + (char) sign + ";", 1, 12);
            }
        }
    }

    /** "1 what can't stand there". */
    private static void cannotStand() {
        for (String word : "; + - * / ( ) < = > 1 when or and not coins creditor".split(" ")) {
            fault(word, 1, 0);
            fault("pay;" + word, 1, 4);
            fault("pay when 1=1 pay;" + word, 1, 13);
        }
        for (String word : "; + - * / ) < = > pay bar when or and".split(" ")) {
            fault("pay when " + word, 1, 9);
            fault("pay when not " + word, 1, 13);
            fault("pay when 1=1 or " + word, 1, 16);
            fault("pay when 1=" + word, 1, 11);
            fault("pay when 1/" + word, 1, 11);
        }
        fault("when 1=1;", 1, 0);
        fault("pay bar;", 1, 4);
        fault("pay;;", 1, 4);
        fault("pay 1=1;", 1, 4);
        fault("pay when when 1=1;", 1, 9);
        fault("pay when and;", 1, 9);
        fault("pay when =1;", 1, 9);
        fault("pay when +1=1;", 1, 9);
        fault("pay when ()=1;", 1, 10);
        fault("pay when (1+1)=2;", 1, 13);
        fault("pay when 1=(1);", 1, 11);
        fault("pay when 1=1=1;", 1, 12);
        fault("pay when 1<>1;", 1, 11);
        fault("pay when 1=1 pay;", 1, 13);
        fault("pay when 1=1 or or 1=1;", 1, 16);
        fault("pay when 1=1 and not;", 1, 20);
        fault("pay when not and 1=1;", 1, 13);
        fault("pay when 1=1 not;", 1, 13);
        fault("pay when 1*=1;", 1, 11);
        fault("pay when 1/coins=1;", 1, 11);
        fault("pay when 1/(2)=1;", 1, 11);
        fault("pay when 1/-2=1;", 1, 11);
        fault("pay when 1--1=0;", 1, 11);
        fault("pay when 1=1);", 1, 12);
        fault("pay when (1=1));", 1, 14);
        fault("pay when (1=1;", 1, 13);
    }

    /** "(the end: the text's length)". */
    private static void theEndIsTheLength() {
        String whole = "bar when (not coins+1*2/3<4 and age>5 or 6=7);";
        int[] ends = {3, 8, 10, 13, 19, 20, 21, 22, 23, 24, 25, 26, 27, 31, 35, 36, 37, 40, 42, 43, 44, 45};
        for (int end : ends) {
            fault(whole.substring(0, end), 1, end);
            fault(whole.substring(0, end) + " \n ", 1, end + 3);
        }
        fault("pay" + " ".repeat(397), 1, 400);
        lines(whole, 1);
    }

    /** "2 (at the NUMBER) a part by 0." */
    private static void partBy0() {
        fault("pay when 1/0=1;", 2, 11);
        fault("pay when 1/00=1;", 2, 11);
        fault("pay when 1/000=1;", 2, 11);
        fault("pay when 1/0000=1;", 2, 11);
        fault("pay when 1/ \n 0=1;", 2, 14);
        fault("pay when 1=1/0;", 2, 13);
        fault("pay when 1=1/2*3/0;", 2, 17);
        fault("pay when 1/00000=1;", 1, 11);
        lines("pay when 1/0001=1;", 1);
        lines("pay when 1/1000=0;", 1);
        lines("pay when 0/1=0*0;", 1);
    }

    /** "3 (at its KEYWORD) the 17th line". */
    private static void seventeenthLine() {
        lines(SIXTEEN, 16);
        lines("bar;".repeat(16) + " \n", 16);
        fault(SIXTEEN + "pay;", 3, 64);
        fault(SIXTEEN + "bar;", 3, 64);
        fault(SIXTEEN + " \n bar when", 3, 67);
        fault(SIXTEEN + "pay;".repeat(30), 3, 64);
        fault(SIXTEEN + "when", 1, 64);
        fault(SIXTEEN + "payx;", 1, 64);
        fault("pay;".repeat(15) + "pay", 1, 63);
        fault("pay;".repeat(15) + "pay pay;", 1, 64);
    }

    /** "(at it) the 9th ( or not that is open." */
    private static void ninthOpen() {
        lines("pay when " + "(".repeat(8) + "1=1" + ")".repeat(8) + ";", 1);
        lines("pay when " + "not ".repeat(8) + "1=1;", 1);
        lines("pay when " + "not(".repeat(4) + "1=1" + "))))" + ";", 1);
        lines("pay when " + "(not ".repeat(4) + "1=1" + "))))" + ";", 1);
        fault("pay when " + "(".repeat(9) + "1=1" + ")".repeat(9) + ";", 3, 17);
        fault("pay when " + "not ".repeat(9) + "1=1;", 3, 41);
        fault("pay when " + "not(".repeat(4) + "not 1=1))));", 3, 25);
        fault("pay when " + "(not ".repeat(4) + "(1=1)))));", 3, 29);
        // those that are closed are not open any more
        lines("pay when " + "(1=1)and ".repeat(12) + "(1=1);", 1);
        lines("pay when " + "not 1=1 or ".repeat(12) + "not 1=1;", 1);
        lines("pay when " + "(".repeat(7) + "(1=1)and(1=1)or not 1=1 and not 1=1" + ")".repeat(7) + ";", 1);
        lines("pay when not(not not 1=1)and " + "(".repeat(8) + "1=1" + ")".repeat(8) + ";", 1);
        lines("pay when " + "not ".repeat(8) + "1=1;pay when " + "(".repeat(8) + "1=1" + ")".repeat(8) + ";", 2);
        fault("pay when " + "(".repeat(7) + "(1=1)and not(", 3, 28);
        fault("pay when " + "(".repeat(7) + "not 1=1 or((", 3, 27);
        fault("pay when " + "(".repeat(8) + "1=1" + ")".repeat(8) + "or " + "(".repeat(9), 3, 39);
    }

    /** "FAULTS, the first by its place". */
    private static void firstByPlace() {
        fault("pay when 1/0=x;", 2, 11);
        fault("pay when x=1/0;", 1, 9);
        fault("pay when 1/0=1;" + SIXTEEN + "pay;", 2, 11);
        fault(SIXTEEN + "pay when 1/0=1; x", 3, 64);
        fault("pay when " + "(".repeat(9) + "1/0=1", 3, 17);
        fault("pay when 1/0=1 and" + "(".repeat(9), 2, 11);
        fault("pay when 1/0", 2, 11);
        fault("pay when " + "not ".repeat(8) + "1/0=1 and", 2, 43);
        fault("pay when " + "not ".repeat(8) + "x=1 and not", 1, 41);
    }

    /** "at one place the least": a ninth one that can't stand there is a 1. */
    private static void leastAtOnePlace() {
        fault("pay when " + "(".repeat(8) + "1(", 1, 18);
        fault("pay when " + "(".repeat(8) + "1=1(", 1, 20);
        fault("pay when " + "(".repeat(8) + "1=1 not", 1, 21);
        fault("pay when " + "(".repeat(8) + "1=not", 1, 19);
        fault("pay when " + "(".repeat(8) + "1+(", 1, 19);
        fault("pay when " + "(".repeat(8) + "1/(", 1, 19);
        fault("pay when " + "not ".repeat(8) + "1=(", 1, 43);
    }

    /** Debt 0 of 77 coins by one aged 40 with 1000 coins, on spot 2 with three people, Sunday 5, made on Sunday 3. */
    private static PaidWhereMade town() {
        PaidWhereMade x = Towns.plain(3, 1, 5);
        x.person(2, 1000, 40);
        x.person(2, 7, 7);
        x.person(2, 8, 8);
        x.pass(3);
        x.debt(1, 0, 77, 2);
        x.pass(2);
        return x;
    }

    private static void lets(String condition, boolean want) {
        PaidWhereMade x = town();
        Due.is("text() of [" + condition + "]", Feeding.law(x, "pay when " + condition + ";bar;"), 2);
        Due.is("owed(0, 7) by [" + condition + "]", x.owed(0, 7) == 1, want);
    }

    /** "Ints, which wrap". */
    private static void intsWrap() {
        String least = "2048*1024*1024";
        lets(least + "<0", true);
        lets(least + "-1>0", true);
        lets(least + "-1+1<0", true);
        lets("0-" + least + "<0", true);
        lets("0-" + least + "=" + least, true);
        lets(least + "+" + least + "=0", true);
        lets(least + "*2=0", true);
        lets(least + "=2147*1000*1000+483*1000+648", true);
        lets("9999*9999*22=0-2095*1000*1000-407*1000-274", true);
        lets("4096*1024*1024=0", true);
        // compared as they are, not by what is between them
        lets(least + "<1", true);
        lets(least + "-1>0-1", true);
        lets("1>" + least, true);
        lets("0-1<" + least + "-1", true);
        lets(least + "-1<" + least, false);
    }

    /** "/ goes towards 0." */
    private static void partGoesTowards0() {
        lets("7/2=3", true);
        lets("2048*1024*1024/1000/1000=0-2147", true);
        lets("2048*1024*1024/3=0-715*1000*1000-827*1000-882", true);
        lets("2048*1024*1024/1<0", true);
        // 0-1048576 by 9999 is 0-104
        lets("4095*1024*1024/9999/104=0-1", true);
        lets("4095*1024*1024/9999/105=0", true);
        lets("0/9999=0", true);
        lets("9998/9999=0", true);
        lets("9999/9999=1", true);
    }

    /** "by the first line whose B is so, or that has none (pay: yes; bar: no); yes without one". */
    private static void firstLineThatIsSo() {
        String[] texts = {"", "pay;", "bar;", "pay;bar;", "bar;pay;", "bar when 1=2;", "bar when 1=2;pay;",
            "bar when 1=2;bar;", "pay when 1=2;bar;", "pay when 1=1;bar;", "bar when 1=1;pay;",
            "pay when 1=2;".repeat(15) + "bar;", "bar when 1=2;".repeat(15) + "bar;", "bar when 1=2;".repeat(16)};
        boolean[] lets = {true, true, false, true, false, true, true, false, false, true, false, false, false, true};
        for (int i = 0; i < texts.length; i++) {
            PaidWhereMade x = town();
            Due.is("text() of [" + texts[i] + "]", Feeding.law(x, texts[i]) >= 0, true);
            Due.is("owed(0, 7) by [" + texts[i] + "]", x.owed(0, 7) == 1, lets[i]);
            x.goal(0, 2);
            Due.is("sunday() by [" + texts[i] + "]", x.sunday(), lets[i] ? 1 : 0);
        }
    }

    /** "B = A {or A}.  A = C {and C}.  C = .. | not C": a not takes the next C alone. */
    private static void andBindsMoreThanOr() {
        String[] so = {"1=2", "1=1"};
        for (int bits = 0; bits < 8; bits++) {
            boolean a = (bits & 1) != 0;
            boolean b = (bits & 2) != 0;
            boolean c = (bits & 4) != 0;
            String x = so[bits & 1];
            String y = so[bits >> 1 & 1];
            String z = so[bits >> 2];
            lets(x + " or " + y + " and " + z, a || b && c);
            lets(x + " and " + y + " or " + z, a && b || c);
            lets("(" + x + " or " + y + ")and " + z, (a || b) && c);
            lets(x + " and(" + y + " or " + z + ")", a && (b || c));
            lets("not " + x + " and " + y + " or not " + z, !a && b || !c);
            lets("not(" + x + " and " + y + ")or not not " + z, !(a && b) || c);
            lets(x + " or " + y + " or " + z, a || b || c);
            lets(x + " and not " + y + " and " + z, a && !b && c);
        }
        lets("1<2 and 1=1 and 2>1", true);
        lets("not 1>2 and 1<2 and not 2<1", true);
        lets("1>2 or 1<1 or 2=1", false);
    }

    private static void factsAtTheirEdges() {
        lets("coins=77 and age=2 and purse=1000 and spot=2 and years=40", true);
        lets("here=3 and debtor=1 and creditor=0 and sunday=5", true);
        lets("coins<77 or coins>77 or age<2 or age>2 or purse<1000 or purse>1000", false);
        lets("spot<2 or spot>2 or years<40 or years>40 or here<3 or here>3", false);
        lets("debtor<1 or debtor>1 or creditor<0 or creditor>0 or sunday<5 or sunday>5", false);
        PaidWhereMade full = Towns.full();
        full.end(0);
        Feeding.law(full, "pay when debtor=8 and creditor=9 and coins=29 and spot=0 and years=8 and purse=800;bar;");
        Due.is("the greatest numbers", full.owed(28, 7), 1);
        Due.is("another debt", full.owed(18, 7), 0);
        PaidWhereMade x = Towns.plain(1, 2, 99);
        x.debt(0, 1, 5, 0);
        Feeding.law(x, "pay when here=0 and age=0 and sunday=0;bar;");
        Due.is("ahead of any Sunday nobody stands there", x.owed(0, 7), 1);
        Due.is("on Sunday two do", x.sunday(), 0);
        Feeding.law(x, "pay when here=2 and age=1 and sunday=1 and purse=99;bar;");
        Due.is("and they stood there", x.owed(0, 7), 1);
        Due.is("sunday()", x.sunday(), 1);
        Due.is("none that is paid", x.owed(0, 7), 0);
    }
}
