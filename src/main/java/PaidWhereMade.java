import java.util.Arrays;

/** A town in which a debt is paid only on the spot where it was made; the shared DOC.md tells its promises. */
public final class PaidWhereMade {
    public static final int NONE = -1;

    private static final int NO_SUCH = NONE - 1;
    private static final int MOST_SPOTS = 10;
    private static final int MOST_PEOPLE = 10;
    private static final int MOST_DEBTS = 30;
    private static final int MOST_LINES = 30;
    private static final int LAST_SUNDAY = 9999;
    private static final int MOST_PASSING = 400;
    private static final int HOURS = 8;
    private static final int HUNDRED = 100;
    /** More than any sum of miles or coins that is compared with it. */
    private static final int BEYOND_ALL = 1 << 30;
    /** Answers that are rows are asked for by this number and up. */
    private static final int ROW = 10;
    private static final int SETTINGS_LOOK = 20;

    private static final int FOG = 0;
    private static final int RATE = 1;
    private static final int CANCEL = 2;
    private static final int TURN = 3;
    private static final int SETTINGS = 4;

    private static final int OPEN_DEBT = 0;
    private static final int BY_COIN = 1;
    private static final int BY_ROUND = 2;

    private final Town town;
    private final Town kept;
    private boolean isKept;
    private final LawReader reader;
    private final Sundays sundays;
    private final Plans plans;
    private final Tours tours;
    private final Waits waits;

    public PaidWhereMade() {
        town = new Town();
        kept = new Town();
        isKept = false;
        reader = new LawReader();
        sundays = new Sundays(town);
        plans = new Plans(town);
        tours = new Tours(town);
        waits = new Waits(town.spots);
    }

    public int state(int v) {
        int before = town.state;
        town.state = v;
        return before;
    }

    public int spot(int price) {
        return town.spots.add(price);
    }

    public boolean way(int a, int b, int miles) {
        return town.spots.tellMiles(a, b, miles);
    }

    public int person(int home, int coin, int age) {
        return town.spots.has(home) ? town.people.add(home, coin, age) : NONE;
    }

    public int debt(int debtor, int creditor, int coins, int spot) {
        boolean known = town.people.has(debtor) && town.people.has(creditor) && town.spots.has(spot);
        return known ? town.debts.add(debtor, creditor, coins, spot, town.sunday) : NONE;
    }

    public boolean set(int what, int v) {
        return town.tellSetting(what, v);
    }

    public boolean goal(int p, int spot) {
        if (!town.people.has(p) || !town.spots.has(spot)) {
            return false;
        }
        town.people.goal[p] = spot;
        return true;
    }

    public int feed(int a, int b, int c, int d, int e) {
        return reader.addNumbers(a, b, c, d, e);
    }

    public boolean end(int n) {
        return reader.cut(n);
    }

    public int text() {
        return reader.readInto(town.law);
    }

    public int fault(int what) {
        switch (what) {
            case 0: return reader.fault;
            case 1: return reader.faultPlace;
            default: return NONE;
        }
    }

    public int sunday() {
        return town.sunday < LAST_SUNDAY ? sundays.goBy() : NONE;
    }

    public int pass(int n) {
        if (n < 1 || n > MOST_PASSING || town.sunday + n > LAST_SUNDAY) {
            return NONE;
        }
        town.people.aimHome();
        int paid = 0;
        for (int i = 0; i < n; i++) {
            paid += sundays.goBy();
        }
        return paid;
    }

    public int of(int p, int what) {
        if (!town.people.has(p)) {
            return NO_SUCH;
        }
        switch (what) {
            case 0: return town.people.home[p];
            case 1: return town.people.coin[p];
            case 2: return town.people.age[p];
            case 3: return town.people.goal[p];
            case 4: return town.people.stood[p];
            case 5: return town.debts.sumOwedBy(p);
            case 6: return town.debts.sumOwedTo(p);
            default: return NO_SUCH;
        }
    }

    public int owed(int debt, int what) {
        if (!town.debts.has(debt)) {
            return NO_SUCH;
        }
        switch (what) {
            case 0: return town.debts.debtor[debt];
            case 1: return town.debts.creditor[debt];
            case 2: return town.debts.coins[debt];
            case 3: return town.debts.place[debt];
            case 4: return town.debts.made[debt];
            case 5: return town.debts.paidOn[debt];
            case 6: return town.debts.how[debt];
            case 7: return town.debts.isOpen(debt) && sundays.lawLets(debt) ? 1 : 0;
            default: return NO_SUCH;
        }
    }

    public int cleared(int what) {
        return plans.clearing(what);
    }

    public int first(int p, int what) {
        return town.people.has(p) ? plans.paying(p, what) : NONE;
    }

    public int tour(int from, int set) {
        if (!town.spots.has(from) || !isSetOf(set, town.spots.count)) {
            return NONE;
        }
        tours.prepare(from, set);
        return tours.fewestMiles(set);
    }

    public int share(int from, int set, int p, int what) {
        boolean known = town.spots.has(from) && isSetOf(set, town.people.count) && town.people.has(p);
        if (!known || (what != 0 && what != 1)) {
            return NONE;
        }
        return tours.coachShare(from, set, p, what == 0);
    }

    public boolean chance(int spot, int hour, int v) {
        return town.spots.tellChance(spot, hour, v);
    }

    public long waiting(int from, int n, int what) {
        if (!town.spots.has(from) || n < 1 || n > HOURS) {
            return NONE;
        }
        return waits.answer(from, n, what);
    }

    public int line(int sunday, int a, int b, int spot) {
        boolean stands = b == NONE && town.spots.has(spot);
        boolean meets = spot == NONE && town.people.has(b) && a != b;
        if (!isSunday(sunday) || !town.people.has(a) || !(stands || meets)) {
            return NONE;
        }
        return town.lines.add(sunday, a, b, spot);
    }

    public int wrong(int sunday) {
        return isSunday(sunday) ? town.lines.fewestWrong(sunday) : NONE;
    }

    public boolean image(boolean taken) {
        if (taken) {
            kept.copyFrom(town);
            isKept = true;
        } else if (isKept) {
            town.copyFrom(kept);
        }
        return isKept;
    }

    public int look(int what) {
        switch (what) {
            case 0: return town.spots.count;
            case 1: return town.people.count;
            case 2: return town.debts.count;
            case 3: return town.debts.countOpen();
            case 4: return town.sunday;
            case 5: return town.miles;
            case 6: return town.state;
            case 7: return town.lines.count;
            case 8: return town.law.lines;
            case 9: return town.wasFog ? 1 : 0;
            default: return lookAtSetting(what);
        }
    }

    private int lookAtSetting(int what) {
        if (what < SETTINGS_LOOK || what >= SETTINGS_LOOK + SETTINGS) {
            return NONE;
        }
        return town.settings[what - SETTINGS_LOOK];
    }

    private static boolean isSunday(int sunday) {
        return sunday >= 0 && sunday <= LAST_SUNDAY;
    }

    private static boolean isSetOf(int bits, int count) {
        return bits >= 0 && bits < 1 << count;
    }

    private static boolean isIn(int number, int bits) {
        return (bits >> number & 1) == 1;
    }

    private static void copyRow(int[] from, int[] to) {
        System.arraycopy(from, 0, to, 0, Math.min(from.length, to.length));
    }

    /** Spots with their prices, the ways between them, and the chances of the one who won't come. */
    private static final class Spots {
        int count;
        final int[] price = new int[MOST_SPOTS];
        private final int[] miles = new int[MOST_SPOTS * MOST_SPOTS];
        private final int[] chances = new int[MOST_SPOTS * HOURS];

        Spots() {
            Arrays.fill(miles, 9);
            for (int s = 0; s < MOST_SPOTS; s++) {
                miles[s * MOST_SPOTS + s] = 0;
            }
        }

        boolean has(int s) {
            return s >= 0 && s < count;
        }

        int add(int itsPrice) {
            if (itsPrice < 0 || itsPrice > 99 || count >= MOST_SPOTS) {
                return NONE;
            }
            price[count] = itsPrice;
            count++;
            return count - 1;
        }

        boolean tellMiles(int a, int b, int m) {
            if (!has(a) || !has(b) || a == b || m < 0 || m > 99) {
                return false;
            }
            miles[a * MOST_SPOTS + b] = m;
            miles[b * MOST_SPOTS + a] = m;
            return true;
        }

        int milesBetween(int a, int b) {
            return has(a) && has(b) ? miles[a * MOST_SPOTS + b] : 0;
        }

        boolean tellChance(int s, int hour, int v) {
            if (!has(s) || hour < 0 || hour >= HOURS || v < 0 || v > HUNDRED) {
                return false;
            }
            int others = 0;
            for (int i = 0; i < count; i++) {
                others += i == s ? 0 : chanceAt(i, hour);
            }
            if (others + v > HUNDRED) {
                return false;
            }
            chances[s * HOURS + hour] = v;
            return true;
        }

        int chanceAt(int s, int hour) {
            return has(s) && hour >= 0 && hour < HOURS ? chances[s * HOURS + hour] : 0;
        }

        void copyFrom(Spots other) {
            count = other.count;
            copyRow(other.price, price);
            copyRow(other.miles, miles);
            copyRow(other.chances, chances);
        }
    }

    private static final class People {
        int count;
        final int[] home = new int[MOST_PEOPLE];
        final int[] coin = new int[MOST_PEOPLE];
        final int[] age = new int[MOST_PEOPLE];
        final int[] goal = new int[MOST_PEOPLE];
        final int[] stood = new int[MOST_PEOPLE];

        boolean has(int p) {
            return p >= 0 && p < count;
        }

        int add(int itsHome, int itsCoin, int itsAge) {
            boolean can = itsCoin >= 0 && itsCoin <= 99999 && itsAge >= 0 && itsAge <= 99;
            if (!can || count >= MOST_PEOPLE) {
                return NONE;
            }
            home[count] = itsHome;
            coin[count] = itsCoin;
            age[count] = itsAge;
            goal[count] = itsHome;
            stood[count] = NONE;
            count++;
            return count - 1;
        }

        void aimHome() {
            copyRow(home, goal);
        }

        int countAt(int spot) {
            int here = 0;
            for (int p = 0; p < count; p++) {
                here += stood[p] == spot ? 1 : 0;
            }
            return here;
        }

        /** The homes of a set of people as bits of spots. */
        int homesOf(int set) {
            int homes = 0;
            for (int p = 0; p < count; p++) {
                homes |= isIn(p, set) ? 1 << home[p] : 0;
            }
            return homes;
        }

        void copyFrom(People other) {
            count = other.count;
            copyRow(other.home, home);
            copyRow(other.coin, coin);
            copyRow(other.age, age);
            copyRow(other.goal, goal);
            copyRow(other.stood, stood);
        }
    }

    /** All debts with the book of how they were paid. */
    private static final class Debts {
        private static final int MOST_COINS = 99999;

        int count;
        final int[] debtor = new int[MOST_DEBTS];
        final int[] creditor = new int[MOST_DEBTS];
        final int[] coins = new int[MOST_DEBTS];
        final int[] place = new int[MOST_DEBTS];
        final int[] made = new int[MOST_DEBTS];
        final int[] paidOn = new int[MOST_DEBTS];
        final int[] how = new int[MOST_DEBTS];

        boolean has(int d) {
            return d >= 0 && d < count;
        }

        int add(int from, int to, int howMany, int spot, int sunday) {
            if (from == to || howMany < 1 || howMany > 9999 || count >= MOST_DEBTS) {
                return NONE;
            }
            debtor[count] = from;
            creditor[count] = to;
            coins[count] = howMany;
            place[count] = spot;
            made[count] = sunday;
            paidOn[count] = NONE;
            how[count] = OPEN_DEBT;
            count++;
            return count - 1;
        }

        boolean isOpen(int d) {
            return d >= 0 && d < count && how[d] == OPEN_DEBT;
        }

        void close(int d, int sunday, int byWhat) {
            if (has(d)) {
                paidOn[d] = sunday;
                how[d] = byWhat;
            }
        }

        int countOpen() {
            int open = 0;
            for (int d = 0; d < count; d++) {
                open += isOpen(d) ? 1 : 0;
            }
            return open;
        }

        int sumOwedBy(int p) {
            int sum = 0;
            for (int d = 0; d < count; d++) {
                sum += isOpen(d) && debtor[d] == p ? coins[d] : 0;
            }
            return sum;
        }

        int sumOwedTo(int p) {
            int sum = 0;
            for (int d = 0; d < count; d++) {
                sum += isOpen(d) && creditor[d] == p ? coins[d] : 0;
            }
            return sum;
        }

        boolean shareSomebody(int d, int e) {
            return debtor[d] == debtor[e] || debtor[d] == creditor[e]
                || creditor[d] == debtor[e] || creditor[d] == creditor[e];
        }

        void addInterest(int sunday, int turn, int rate) {
            for (int d = 0; d < count && rate > 0; d++) {
                if (isOpen(d) && turn > 0 && (sunday - made[d]) % turn == 0) {
                    coins[d] = Math.min(MOST_COINS, grown(coins[d], rate));
                }
            }
        }

        static int grown(int howMany, int rate) {
            return howMany + howMany * rate / HUNDRED;
        }

        void copyFrom(Debts other) {
            count = other.count;
            copyRow(other.debtor, debtor);
            copyRow(other.creditor, creditor);
            copyRow(other.coins, coins);
            copyRow(other.place, place);
            copyRow(other.made, made);
            copyRow(other.paidOn, paidOn);
            copyRow(other.how, how);
        }
    }

    /** The book of who was where and who met whom, in which some lines may be wrong. */
    private static final class Lines {
        private static final int MOST_NAMED = 5;

        int count;
        private final int[] day = new int[MOST_LINES];
        private final int[] who = new int[MOST_LINES];
        private final int[] other = new int[MOST_LINES];
        private final int[] place = new int[MOST_LINES];
        /** The people of a line as bits of their seats; 0 for a line that is not of the Sunday asked for. */
        private final int[] named = new int[MOST_LINES];
        private final int[] seats = new int[MOST_PEOPLE];
        private final int[] tally = new int[MOST_SPOTS];
        private final int[] together = new int[1 << MOST_NAMED];
        private final int[] fewest = new int[1 << MOST_NAMED];

        int add(int sunday, int a, int b, int spot) {
            if (count >= MOST_LINES) {
                return NONE;
            }
            day[count] = sunday;
            who[count] = a;
            other[count] = b;
            place[count] = spot;
            count++;
            return count - 1;
        }

        /**
         * People who stand on one spot are a group; every way to put all on spots is a way to part them into
         * groups, so the least is sought over those, not over all spots of all people.
         */
        int fewestWrong(int sunday) {
            int all = seatNamed(sunday);
            if (all > MOST_NAMED) {
                return NONE;
            }
            int full = (1 << all) - 1;
            fewest[0] = 0;
            for (int set = 1; set <= full; set++) {
                together[set] = wrongIfTogether(set);
            }
            for (int set = 1; set <= full; set++) {
                fewest[set] = fewestOfSet(set);
            }
            return fewest[full];
        }

        private int seatNamed(int sunday) {
            Arrays.fill(seats, NONE);
            int taken = 0;
            for (int i = 0; i < count; i++) {
                named[i] = 0;
                if (day[i] == sunday) {
                    taken = seat(who[i], taken);
                    taken = seat(other[i], taken);
                    named[i] = bitOf(who[i]) | bitOf(other[i]);
                }
            }
            return taken;
        }

        private int seat(int p, int taken) {
            if (p < 0 || p >= MOST_PEOPLE || seats[p] != NONE) {
                return taken;
            }
            seats[p] = taken;
            return taken + 1;
        }

        private int bitOf(int p) {
            return p < 0 || p >= MOST_PEOPLE || seats[p] == NONE ? 0 : 1 << seats[p];
        }

        /** Tries every group that the lowest may stand in, with those who are left parted as is best for them. */
        private int fewestOfSet(int set) {
            int lowest = set & -set;
            int rest = set & ~lowest;
            int least = together[set];
            for (int left = rest; left > 0; left = (left - 1) & rest) {
                int group = set & ~left;
                int wrongs = together[group] + fewest[left] + meetingsBetween(group, left);
                least = Math.min(least, wrongs);
            }
            return least;
        }

        private int wrongIfTogether(int group) {
            Arrays.fill(tally, 0);
            int all = 0;
            int most = 0;
            for (int i = 0; i < count; i++) {
                boolean tells = place[i] >= 0 && place[i] < MOST_SPOTS;
                if (tells && (named[i] & group) != 0) {
                    all++;
                    tally[place[i]]++;
                    most = Math.max(most, tally[place[i]]);
                }
            }
            return all - most;
        }

        private int meetingsBetween(int group, int left) {
            int broken = 0;
            for (int i = 0; i < count; i++) {
                broken += (named[i] & group) != 0 && (named[i] & left) != 0 ? 1 : 0;
            }
            return broken;
        }

        void copyFrom(Lines from) {
            count = from.count;
            copyRow(from.day, day);
            copyRow(from.who, who);
            copyRow(from.other, other);
            copyRow(from.place, place);
        }
    }

    /** All that an image keeps. */
    private static final class Town {
        int state;
        int sunday;
        int miles;
        boolean wasFog;
        final int[] settings = new int[SETTINGS];
        final Spots spots = new Spots();
        final People people = new People();
        final Debts debts = new Debts();
        final Lines lines = new Lines();
        final Law law = new Law();

        Town() {
            settings[TURN] = 4;
        }

        boolean tellSetting(int what, int v) {
            if (what < 0 || what >= SETTINGS || v < leastSetting(what) || v > greatestSetting(what)) {
                return false;
            }
            settings[what] = v;
            return true;
        }

        private static int leastSetting(int what) {
            return what == TURN ? 1 : 0;
        }

        private static int greatestSetting(int what) {
            switch (what) {
                case FOG: return HUNDRED;
                case RATE: return 99;
                case CANCEL: return 1;
                default: return 52;
            }
        }

        int draw(int below) {
            state = 1664525 * state + 1013904223;
            return below > 0 ? (state >>> 8) % below : 0;
        }

        void copyFrom(Town other) {
            state = other.state;
            sunday = other.sunday;
            miles = other.miles;
            wasFog = other.wasFog;
            copyRow(other.settings, settings);
            spots.copyFrom(other.spots);
            people.copyFrom(other.people);
            debts.copyFrom(other.debts);
            lines.copyFrom(other.lines);
            law.copyFrom(other.law);
        }
    }

    /**
     * The law as a row of words for a stack: a number stands for itself, every other word is below 0. Each line
     * ends with PAY or BAR, which takes what its condition came to.
     */
    private static final class Law {
        private static final int PAY = -1;
        private static final int BAR = -2;
        private static final int WHEN = -3;
        private static final int OR = -4;
        private static final int AND = -5;
        private static final int NOT = -6;
        private static final int FIRST_FACT = -7;
        private static final int LAST_FACT = -15;
        private static final int SEMICOLON = -16;
        private static final int PLUS = -17;
        private static final int MINUS = -18;
        private static final int TIMES = -19;
        private static final int PART = -20;
        private static final int OPEN = -21;
        private static final int CLOSE = -22;
        private static final int LESS = -23;
        private static final int SAME = -24;
        private static final int MORE = -25;

        private static final int FACTS = FIRST_FACT - LAST_FACT + 1;
        private static final int MOST_WORDS = 400;
        /** Two words of or and and at each of 9 depths, and four of a comparison, wait at once at most. */
        private static final int MOST_WAITING = 40;

        int lines;
        private int size;
        private int top;
        private final int[] words = new int[MOST_WORDS];
        private final int[] stack = new int[MOST_WAITING];

        void clear() {
            lines = 0;
            size = 0;
        }

        void add(int word) {
            if (size < words.length) {
                words[size] = word;
                size++;
            }
        }

        void addVerdict(int word) {
            add(word);
            lines++;
        }

        boolean lets(int[] facts) {
            top = 0;
            for (int at = 0; at < size && at < words.length; at++) {
                int word = words[at];
                if (word == PAY || word == BAR) {
                    if (pop() != 0) {
                        return word == PAY;
                    }
                } else {
                    step(word, facts);
                }
            }
            return true;
        }

        private void step(int word, int[] facts) {
            if (word >= 0) {
                push(word);
            } else if (isFact(word)) {
                int which = FIRST_FACT - word;
                push(which < facts.length ? facts[which] : 0);
            } else if (word == NOT) {
                push(pop() == 0 ? 1 : 0);
            } else {
                int right = pop();
                int left = pop();
                push(joined(word, left, right));
            }
        }

        private static int joined(int word, int left, int right) {
            switch (word) {
                case OR: return left | right;
                case AND: return left & right;
                case PLUS: return left + right;
                case MINUS: return left - right;
                case TIMES: return left * right;
                case PART: return right == 0 ? 0 : left / right;
                case LESS: return left < right ? 1 : 0;
                case SAME: return left == right ? 1 : 0;
                default: return left > right ? 1 : 0;
            }
        }

        static boolean isFact(int word) {
            return word <= FIRST_FACT && word >= LAST_FACT;
        }

        private void push(int v) {
            if (top >= 0 && top < stack.length) {
                stack[top] = v;
                top++;
            }
        }

        private int pop() {
            if (top <= 0 || top > stack.length) {
                return 0;
            }
            top--;
            return stack[top];
        }

        void copyFrom(Law other) {
            lines = other.lines;
            size = other.size;
            copyRow(other.words, words);
        }
    }

    /** The tape, and the reading of it as a law; a token is a number, which is 0 or more, or a word of Law. */
    private static final class LawReader {
        private static final String KEYWORDS =
            "pay bar when or and not coins age purse spot years here debtor creditor sunday ";
        private static final String SIGNS = ";+-*/()<=>";
        private static final int END = -26;
        private static final int NO_TOKEN = -27;

        private static final int MOST_BYTES = 400;
        private static final int FED = 20;
        private static final int MOST_LAW_LINES = 16;
        private static final int MOST_OPEN = 8;
        private static final int MOST_DIGITS = 4;

        private static final int CANNOT_STAND = 1;
        private static final int PART_BY_0 = 2;
        private static final int TOO_MANY = 3;

        int fault;
        int faultPlace = NONE;
        private int length;
        private final int[] tape = new int[MOST_BYTES];
        private final Law draft = new Law();
        private final int[] tokens = new int[MOST_BYTES + 1];
        private final int[] places = new int[MOST_BYTES + 1];
        private int tokenCount;
        private int at;
        private int token;

        int addNumbers(int a, int b, int c, int d, int e) {
            if (length + FED > MOST_BYTES) {
                return NONE;
            }
            addBytes(a);
            addBytes(b);
            addBytes(c);
            addBytes(d);
            addBytes(e);
            return length;
        }

        private void addBytes(int number) {
            for (int shift = 24; shift >= 0 && length < MOST_BYTES; shift -= 8) {
                tape[length] = number >>> shift & 255;
                length++;
            }
        }

        boolean cut(int n) {
            if (n < 0 || n > length) {
                return false;
            }
            length = n;
            return true;
        }

        int readInto(Law law) {
            splitTape();
            length = 0;
            fault = 0;
            faultPlace = NONE;
            at = 0;
            token = tokens[0];
            draft.clear();
            for (int n = 0; n <= MOST_LAW_LINES && fault == 0 && token != END; n++) {
                readLine();
            }
            if (fault != 0) {
                return NONE;
            }
            law.copyFrom(draft);
            return law.lines;
        }

        /** Only the first fault counts: the tokens are taken by their places, so it is the first by its place. */
        private void fail(int what) {
            if (fault == 0) {
                fault = what;
                faultPlace = places[at];
            }
        }

        private void advance() {
            if (at + 1 < tokenCount) {
                at++;
                token = tokens[at];
            }
        }

        private void expect(int word) {
            if (token == word) {
                advance();
            } else {
                fail(CANNOT_STAND);
            }
        }

        private void readLine() {
            int verdict = token;
            if (verdict != Law.PAY && verdict != Law.BAR) {
                fail(CANNOT_STAND);
                return;
            }
            if (draft.lines >= MOST_LAW_LINES) {
                fail(TOO_MANY);
                return;
            }
            advance();
            if (token == Law.WHEN) {
                advance();
                readAny(0);
            } else {
                draft.add(1);
            }
            expect(Law.SEMICOLON);
            draft.addVerdict(verdict);
        }

        /** An or waits till all that is joined by and behind it is read. */
        private void readAny(int open) {
            boolean orWaits = false;
            readCondition(open);
            for (int n = 0; n < MOST_BYTES && fault == 0 && (token == Law.OR || token == Law.AND); n++) {
                boolean isAnd = token == Law.AND;
                if (orWaits && !isAnd) {
                    draft.add(Law.OR);
                }
                orWaits |= !isAnd;
                advance();
                readCondition(open);
                if (isAnd) {
                    draft.add(Law.AND);
                }
            }
            if (orWaits) {
                draft.add(Law.OR);
            }
        }

        private void readCondition(int open) {
            if (token == Law.NOT || token == Law.OPEN) {
                readOpened(open);
                return;
            }
            readSide();
            int word = token;
            if (word != Law.LESS && word != Law.SAME && word != Law.MORE) {
                fail(CANNOT_STAND);
                return;
            }
            advance();
            readSide();
            draft.add(word);
        }

        private void readOpened(int open) {
            if (open >= MOST_OPEN) {
                fail(TOO_MANY);
            } else if (token == Law.NOT) {
                advance();
                readCondition(open + 1);
                draft.add(Law.NOT);
            } else {
                advance();
                readAny(open + 1);
                expect(Law.CLOSE);
            }
        }

        /** A side of a comparison; a + or - waits till the product behind it is read. */
        private void readSide() {
            int held = NO_TOKEN;
            readUnit();
            for (int n = 0; n < MOST_BYTES && fault == 0 && token <= Law.PLUS && token >= Law.PART; n++) {
                int word = token;
                boolean isSum = word == Law.PLUS || word == Law.MINUS;
                if (isSum && held != NO_TOKEN) {
                    draft.add(held);
                }
                held = isSum ? word : held;
                advance();
                if (word == Law.PART) {
                    checkDivisor();
                }
                readUnit();
                if (!isSum) {
                    draft.add(word);
                }
            }
            if (held != NO_TOKEN) {
                draft.add(held);
            }
        }

        private void checkDivisor() {
            if (token < 0) {
                fail(CANNOT_STAND);
            } else if (token == 0) {
                fail(PART_BY_0);
            }
        }

        private void readUnit() {
            if (token >= 0 || Law.isFact(token)) {
                draft.add(token);
                advance();
            } else {
                fail(CANNOT_STAND);
            }
        }

        private void splitTape() {
            tokenCount = 0;
            int next = 0;
            for (int n = 0; n < MOST_BYTES && next < length; n++) {
                int sign = byteAt(next);
                int behind = next + 1;
                if (isLetter(sign)) {
                    behind = behindLetters(next);
                    addToken(wordToken(next, behind), next);
                } else if (isDigit(sign)) {
                    behind = behindDigits(next);
                    addToken(numberToken(next, behind), next);
                } else if (!isBlank(sign)) {
                    addToken(signToken(sign), next);
                }
                next = behind;
            }
            addToken(END, length);
        }

        private void addToken(int which, int place) {
            if (tokenCount < tokens.length) {
                tokens[tokenCount] = which;
                places[tokenCount] = place;
                tokenCount++;
            }
        }

        private int byteAt(int place) {
            return place >= 0 && place < length && place < MOST_BYTES ? tape[place] : NONE;
        }

        private static boolean isBlank(int sign) {
            return sign == 32 || sign == 10;
        }

        private static boolean isLetter(int sign) {
            return sign >= 'a' && sign <= 'z' || sign >= 'A' && sign <= 'Z';
        }

        private static boolean isDigit(int sign) {
            return sign >= '0' && sign <= '9';
        }

        private int behindLetters(int from) {
            int behind = from;
            for (int n = 0; n < MOST_BYTES && isLetter(byteAt(behind)); n++) {
                behind++;
            }
            return behind;
        }

        private int behindDigits(int from) {
            int behind = from;
            for (int n = 0; n < MOST_BYTES && isDigit(byteAt(behind)); n++) {
                behind++;
            }
            return behind;
        }

        private int wordToken(int from, int behind) {
            int number = 0;
            int begin = 0;
            for (int i = 0; i < KEYWORDS.length(); i++) {
                if (KEYWORDS.charAt(i) == ' ') {
                    if (i - begin == behind - from && isKeyword(from, begin, i)) {
                        return Law.PAY - number;
                    }
                    number++;
                    begin = i + 1;
                }
            }
            return NO_TOKEN;
        }

        /** Whether the tape has from a place on what KEYWORDS has from begin to the end. */
        private boolean isKeyword(int from, int begin, int end) {
            for (int i = begin; i < end && i < KEYWORDS.length(); i++) {
                if (byteAt(from + i - begin) != KEYWORDS.charAt(i)) {
                    return false;
                }
            }
            return true;
        }

        private int numberToken(int from, int behind) {
            if (behind - from > MOST_DIGITS) {
                return NO_TOKEN;
            }
            int value = 0;
            for (int i = from; i < behind; i++) {
                value = value * 10 + byteAt(i) - '0';
            }
            return value;
        }

        private static int signToken(int sign) {
            for (int i = 0; i < SIGNS.length(); i++) {
                if (SIGNS.charAt(i) == sign) {
                    return Law.SEMICOLON - i;
                }
            }
            return NO_TOKEN;
        }
    }

    /** How a Sunday goes: who stands where, what cancels, what is paid, and interest. */
    private static final class Sundays {
        private static final int FAR = 99;

        private final Town town;
        private final int[] facts = new int[Law.FACTS];
        /** Which debts may be in a round on the spot that is looked at. */
        private final boolean[] counts = new boolean[MOST_DEBTS];
        /** For each of the people, as bits, to whom he owes by those. */
        private final int[] owes = new int[MOST_PEOPLE];
        private final int[] round = new int[MOST_PEOPLE];
        private int roundSize;

        Sundays(Town town) {
            this.town = town;
        }

        int goBy() {
            sendOut();
            int paid = town.settings[CANCEL] == 1 ? cancelAll() : 0;
            paid += payAll();
            town.sunday++;
            town.debts.addInterest(town.sunday, town.settings[TURN], town.settings[RATE]);
            town.people.aimHome();
            return paid;
        }

        private void sendOut() {
            int fog = town.settings[FOG];
            town.wasFog = fog > 0 && town.draw(HUNDRED) < fog;
            for (int p = 0; p < town.people.count; p++) {
                town.people.stood[p] = town.people.home[p];
                if (!town.wasFog && town.people.goal[p] != town.people.home[p]) {
                    sendAway(p, town.people.goal[p]);
                }
            }
        }

        private void sendAway(int p, int spot) {
            if (town.spots.has(spot) && town.people.coin[p] >= town.spots.price[spot]) {
                town.people.coin[p] -= town.spots.price[spot];
                town.people.stood[p] = spot;
                town.miles += 2 * town.spots.milesBetween(town.people.home[p], spot);
            }
        }

        private int payAll() {
            int paid = 0;
            for (int d = 0; d < town.debts.count; d++) {
                int debtor = town.debts.debtor[d];
                int coins = town.debts.coins[d];
                if (bothStandThere(d) && town.people.coin[debtor] >= coins && lawLets(d)) {
                    town.people.coin[debtor] -= coins;
                    town.people.coin[town.debts.creditor[d]] += coins;
                    town.debts.close(d, town.sunday, BY_COIN);
                    paid++;
                }
            }
            return paid;
        }

        /** Whether a debt is open and both stand on its spot. */
        private boolean bothStandThere(int d) {
            int spot = town.debts.place[d];
            return town.debts.isOpen(d)
                && town.people.stood[town.debts.debtor[d]] == spot
                && town.people.stood[town.debts.creditor[d]] == spot;
        }

        boolean lawLets(int d) {
            int debtor = town.debts.debtor[d];
            facts[0] = town.debts.coins[d];
            facts[1] = town.sunday - town.debts.made[d];
            facts[2] = town.people.coin[debtor];
            facts[3] = town.debts.place[d];
            facts[4] = town.people.age[debtor];
            facts[5] = town.people.countAt(town.debts.place[d]);
            facts[6] = debtor;
            facts[7] = town.debts.creditor[d];
            facts[8] = town.sunday;
            return town.law.lets(facts);
        }

        private int cancelAll() {
            int paid = 0;
            int busy = spotsWithTwoDebts();
            for (int spot = 0; spot < town.spots.count; spot++) {
                // Each round pays a debt at least.
                for (int n = 0; n < MOST_DEBTS && isIn(spot, busy) && findRound(spot); n++) {
                    paid += cancelRound();
                }
            }
            return paid;
        }

        /** A round has two debts at least: on most Sundays this spares looking for one. */
        private int spotsWithTwoDebts() {
            int one = 0;
            int two = 0;
            for (int d = 0; d < town.debts.count; d++) {
                if (bothStandThere(d)) {
                    int spot = 1 << town.debts.place[d];
                    two |= one & spot;
                    one |= spot;
                }
            }
            return two;
        }

        /**
         * The first debt that is on a shortest round is its least one: with a lesser one in it, that one would have
         * been the first.
         */
        private boolean findRound(int spot) {
            noteWhoOwes(spot);
            int shortest = FAR;
            int begin = NONE;
            for (int d = 0; d < town.debts.count; d++) {
                if (counts[d]) {
                    int size = 1 + stepsBetween(town.debts.creditor[d], town.debts.debtor[d]);
                    if (size < shortest) {
                        shortest = size;
                        begin = d;
                    }
                }
            }
            if (begin == NONE) {
                return false;
            }
            traceRound(begin, shortest);
            return true;
        }

        private void noteWhoOwes(int spot) {
            Arrays.fill(owes, 0);
            for (int d = 0; d < town.debts.count; d++) {
                counts[d] = town.debts.place[d] == spot && bothStandThere(d);
                if (counts[d]) {
                    owes[town.debts.debtor[d]] |= 1 << town.debts.creditor[d];
                }
            }
        }

        /** How many debts lead from one to another at least, FAR if none do. */
        private int stepsBetween(int from, int to) {
            int reached = 1 << from;
            for (int steps = 0; steps < MOST_PEOPLE; steps++) {
                if (isIn(to, reached)) {
                    return steps;
                }
                int more = reached;
                for (int p = 0; p < town.people.count; p++) {
                    more |= isIn(p, reached) ? owes[p] : 0;
                }
                if (more == reached) {
                    return FAR;
                }
                reached = more;
            }
            return FAR;
        }

        private void traceRound(int begin, int size) {
            round[0] = begin;
            roundSize = 1;
            int goal = town.debts.debtor[begin];
            int at = town.debts.creditor[begin];
            for (int left = size - 1; left > 0 && roundSize < round.length; left--) {
                int d = leastDebtTowards(at, goal, left - 1);
                if (d == NONE) {
                    return;
                }
                round[roundSize] = d;
                roundSize++;
                at = town.debts.creditor[d];
            }
        }

        private int leastDebtTowards(int from, int goal, int steps) {
            for (int d = 0; d < town.debts.count; d++) {
                boolean leaves = counts[d] && town.debts.debtor[d] == from;
                if (leaves && stepsBetween(town.debts.creditor[d], goal) == steps) {
                    return d;
                }
            }
            return NONE;
        }

        private int cancelRound() {
            int least = BEYOND_ALL;
            for (int i = 0; i < roundSize; i++) {
                least = Math.min(least, town.debts.coins[round[i]]);
            }
            int paid = 0;
            for (int i = 0; i < roundSize; i++) {
                int d = round[i];
                town.debts.coins[d] -= least;
                if (town.debts.coins[d] == 0) {
                    town.debts.close(d, town.sunday, BY_ROUND);
                    paid++;
                }
            }
            return paid;
        }
    }

    /** A town cleared in the fewest Sundays, and one's debts in the order that costs least. */
    private static final class Plans {
        private static final int MOST_CLEARED = 10;
        private static final int MOST_ORDERED = 8;

        private final Town town;
        private final int[] open = new int[MOST_CLEARED];
        private int openCount;
        private final int[] clashes = new int[MOST_CLEARED];
        private final boolean[] fits = new boolean[1 << MOST_CLEARED];
        /** By set: the fewest Sundays for it, or the least coins for all but it. */
        private final int[] least = new int[1 << MOST_CLEARED];
        private final int[] grown = new int[MOST_ORDERED * MOST_ORDERED];

        Plans(Town town) {
            this.town = town;
        }

        int clearing(int what) {
            if (!gatherOpen(NONE, MOST_CLEARED)) {
                return NONE;
            }
            int full = (1 << openCount) - 1;
            noteClashes();
            countSundays(full);
            if (what == 0) {
                return least[full];
            }
            return what >= ROW && what - ROW < least[full] ? setOfSunday(what - ROW, full) : NONE;
        }

        /** The open debts, of one debtor or (NONE) of all; false if they are more than the most. */
        private boolean gatherOpen(int debtor, int most) {
            openCount = 0;
            for (int d = 0; d < town.debts.count; d++) {
                if (town.debts.isOpen(d) && (debtor == NONE || town.debts.debtor[d] == debtor)) {
                    if (openCount >= most || openCount >= open.length) {
                        return false;
                    }
                    open[openCount] = d;
                    openCount++;
                }
            }
            return true;
        }

        private void noteClashes() {
            for (int i = 0; i < openCount; i++) {
                clashes[i] = 0;
                for (int j = 0; j < openCount; j++) {
                    boolean elsewhere = town.debts.place[open[i]] != town.debts.place[open[j]];
                    clashes[i] |= elsewhere && town.debts.shareSomebody(open[i], open[j]) ? 1 << j : 0;
                }
            }
        }

        private void countSundays(int full) {
            fits[0] = true;
            least[0] = 0;
            for (int set = 1; set <= full; set++) {
                int lowest = set & -set;
                int rest = set & ~lowest;
                int number = Integer.bitCount(lowest - 1);
                fits[set] = fits[rest] && (clashes[number] & rest) == 0;
                least[set] = fits[set] ? 1 : fewestSundays(lowest, rest);
            }
        }

        /** Some Sunday has the lowest debt; which others are left then is all that need be tried. */
        private int fewestSundays(int lowest, int rest) {
            int fewest = MOST_CLEARED;
            for (int left = rest; left > 0; left = (left - 1) & rest) {
                if (fits[lowest | rest & ~left]) {
                    fewest = Math.min(fewest, 1 + least[left]);
                }
            }
            return fewest;
        }

        private int setOfSunday(int k, int full) {
            int left = full;
            int chosen = 0;
            for (int n = 0; n <= k && n < MOST_CLEARED; n++) {
                chosen = greatestSet(left);
                left &= ~chosen;
            }
            return chosen;
        }

        private int greatestSet(int left) {
            for (int set = left; set > 0; set = (set - 1) & left) {
                if (fits[set] && least[left & ~set] == least[left] - 1) {
                    return set;
                }
            }
            return 0;
        }

        int paying(int p, int what) {
            if (!gatherOpen(p, MOST_ORDERED)) {
                return NONE;
            }
            growDebts();
            int full = (1 << openCount) - 1;
            least[full] = 0;
            for (int paid = full - 1; paid >= 0; paid--) {
                least[paid] = leastBehind(paid);
            }
            if (what == 0) {
                return least[0];
            }
            return what >= ROW && what - ROW < openCount ? debtInOrder(what - ROW) : NONE;
        }

        private void growDebts() {
            for (int i = 0; i < openCount; i++) {
                int coins = town.debts.coins[open[i]];
                for (int n = 0; n < openCount; n++) {
                    grown[n * MOST_ORDERED + i] = coins;
                    coins = Debts.grown(coins, town.settings[RATE]);
                }
            }
        }

        private int leastBehind(int paid) {
            int fewest = BEYOND_ALL;
            for (int i = 0; i < openCount; i++) {
                if (!isIn(i, paid)) {
                    fewest = Math.min(fewest, costWithNext(paid, i));
                }
            }
            return fewest;
        }

        private int costWithNext(int paid, int i) {
            return grown[Integer.bitCount(paid) * MOST_ORDERED + i] + least[paid | 1 << i];
        }

        private int debtInOrder(int place) {
            int paid = 0;
            int chosen = NONE;
            for (int n = 0; n <= place && n < openCount; n++) {
                chosen = firstOfLeast(paid);
                paid |= 1 << chosen;
            }
            return chosen >= 0 && chosen < openCount ? open[chosen] : NONE;
        }

        private int firstOfLeast(int paid) {
            for (int i = 0; i < openCount; i++) {
                if (!isIn(i, paid) && costWithNext(paid, i) == least[paid]) {
                    return i;
                }
            }
            return 0;
        }
    }

    /** Tours with the fewest miles, and the coach whose cost is shared by all orders. */
    private static final class Tours {
        private static final int MOST_STOPS = MOST_SPOTS - 1;
        private static final int MOST_RIDERS = 6;

        private final Town town;
        private int stopCount;
        private final int[] stops = new int[MOST_STOPS];
        /** The miles from stop to stop, and from the start to each. */
        private final int[] legs = new int[MOST_STOPS * MOST_STOPS];
        private final int[] firstLegs = new int[MOST_STOPS];
        /** By set of stops and the last of them: the fewest miles from the start over all of the set to that one. */
        private final int[] fewest = new int[(1 << MOST_STOPS) * MOST_STOPS];

        Tours(Town town) {
            this.town = town;
        }

        /** Makes ready for the tours from a spot over each part of a set of spots. */
        void prepare(int from, int spots) {
            stopCount = 0;
            for (int s = 0; s < town.spots.count; s++) {
                if (s != from && isIn(s, spots) && stopCount < MOST_STOPS) {
                    stops[stopCount] = s;
                    stopCount++;
                }
            }
            noteLegs(from);
            for (int set = 1; set < 1 << stopCount; set++) {
                for (int last = 0; last < stopCount; last++) {
                    if (isIn(last, set)) {
                        fewest[set * MOST_STOPS + last] = fewestTo(last, set & ~(1 << last));
                    }
                }
            }
        }

        private void noteLegs(int from) {
            for (int i = 0; i < stopCount; i++) {
                firstLegs[i] = town.spots.milesBetween(from, stops[i]);
                for (int j = 0; j < stopCount; j++) {
                    legs[i * MOST_STOPS + j] = town.spots.milesBetween(stops[i], stops[j]);
                }
            }
        }

        private int fewestTo(int last, int before) {
            if (before == 0) {
                return firstLegs[last];
            }
            int least = BEYOND_ALL;
            for (int i = 0; i < stopCount; i++) {
                if ((before >> i & 1) == 1) {
                    least = Math.min(least, fewest[before * MOST_STOPS + i] + legs[last * MOST_STOPS + i]);
                }
            }
            return least;
        }

        /** The tour over spots that are among those made ready for. */
        int fewestMiles(int spots) {
            int set = 0;
            for (int i = 0; i < stopCount; i++) {
                set |= isIn(stops[i], spots) ? 1 << i : 0;
            }
            if (set == 0) {
                return 0;
            }
            int least = BEYOND_ALL;
            for (int last = 0; last < stopCount; last++) {
                if (isIn(last, set)) {
                    least = Math.min(least, fewest[set * MOST_STOPS + last] + firstLegs[last]);
                }
            }
            return least;
        }

        int coachShare(int from, int riders, int p, boolean above) {
            int count = Integer.bitCount(riders);
            if (!isIn(p, riders) || count > MOST_RIDERS) {
                return NONE;
            }
            prepare(from, town.people.homesOf(riders));
            int sum = sumOverOrders(riders & ~(1 << p), p, count);
            int orders = ordersOf(count);
            int common = commonPart(Math.abs(sum), orders);
            if (common <= 0) {
                return NONE;
            }
            return (above ? sum : orders) / common;
        }

        /** Those who came ahead may have come in any order, and so may those who come behind. */
        private int sumOverOrders(int others, int p, int count) {
            int sum = 0;
            for (int ahead = others; ahead >= 0; ahead--) {
                if ((ahead & ~others) == 0) {
                    int came = Integer.bitCount(ahead);
                    int more = coachCost(ahead | 1 << p) - coachCost(ahead);
                    sum += ordersOf(came) * ordersOf(count - 1 - came) * more;
                }
            }
            return sum;
        }

        private int coachCost(int riders) {
            return fewestMiles(town.people.homesOf(riders));
        }

        private static int ordersOf(int count) {
            int orders = 1;
            for (int i = 2; i <= count; i++) {
                orders *= i;
            }
            return orders;
        }

        private static int commonPart(int a, int b) {
            int greater = a;
            int lesser = b;
            for (int n = 0; n < HUNDRED && lesser != 0; n++) {
                int rest = greater % lesser;
                greater = lesser;
                lesser = rest;
            }
            return greater;
        }
    }

    /** Where to stand hour by hour for one who won't come. */
    private static final class Waits {
        private static final int WALKING = 10;
        private static final int MILES_AN_HOUR = 10;
        /** A way is a number with a digit of so many bits for each hour, the first hour's the highest. */
        private static final int DIGIT = 4;

        private final Spots spots;
        private int hours;
        /** By hour and spot: the least chance from then on, and the way that has it. */
        private final long[] chance = new long[(HOURS + 1) * MOST_SPOTS];
        private final long[] track = new long[(HOURS + 1) * MOST_SPOTS];

        Waits(Spots spots) {
            this.spots = spots;
        }

        long answer(int from, int n, int what) {
            if (what != 0 && (what < ROW || what - ROW >= n)) {
                return NONE;
            }
            prepare(n);
            if (what == 0) {
                return chance[from];
            }
            return track[from] >> DIGIT * (n - 1 - (what - ROW)) & 15;
        }

        private void prepare(int n) {
            hours = n;
            for (int s = 0; s < spots.count; s++) {
                chance[n * MOST_SPOTS + s] = 1;
                track[n * MOST_SPOTS + s] = 0;
            }
            for (int hour = n - 1; hour >= 0; hour--) {
                for (int s = 0; s < spots.count; s++) {
                    stand(hour, s);
                    for (int to = 0; to < spots.count; to++) {
                        tryWalk(hour, s, to);
                    }
                }
            }
        }

        /** Once he is met for sure every way behind has the same chance, and the least of those is to stay. */
        private void stand(int hour, int s) {
            int here = hour * MOST_SPOTS + s;
            int then = here + MOST_SPOTS;
            int missed = HUNDRED - spots.chanceAt(s, hour);
            long behind = missed == 0 ? repeated(s, hours - hour - 1) : track[then];
            chance[here] = missed * chance[then];
            track[here] = (long) s << DIGIT * (hours - hour - 1) | behind;
        }

        private void tryWalk(int hour, int s, int to) {
            int arrival = hour + hoursOfWalk(s, to);
            if (s == to || arrival > hours) {
                return;
            }
            int here = hour * MOST_SPOTS + s;
            int there = arrival * MOST_SPOTS + to;
            long missed = chance[there];
            for (int h = hour; h < arrival; h++) {
                missed *= HUNDRED;
            }
            long way = repeated(WALKING, arrival - hour) << DIGIT * (hours - arrival) | track[there];
            if (missed < chance[here] || missed == chance[here] && way < track[here]) {
                chance[here] = missed;
                track[here] = way;
            }
        }

        private int hoursOfWalk(int s, int to) {
            return Math.max(1, (spots.milesBetween(s, to) + MILES_AN_HOUR - 1) / MILES_AN_HOUR);
        }

        private static long repeated(int digit, int times) {
            long row = 0;
            for (int i = 0; i < times; i++) {
                row = row << DIGIT | digit;
            }
            return row;
        }
    }
}
