import java.util.Arrays;
import java.util.NoSuchElementException;

/** A weekly feast to which each guest has to bring another; ../shared/DOC.md says what every call does. */
public final class EachBringsAnother {
    public static final int NONE = -1;

    private static final int NOTHING = -2;
    private static final int TOO_MANY = -3;
    private static final int NO_MORE_WEEKS = -300;
    private static final int NO_SEATS = -200;
    private static final int WRONG_PAIR = -100;

    private static final int MOST_PEOPLE = 10;
    private static final int MOST_WEEKS = 60;
    private static final int MOST_STATES = 3000;
    private static final int MOST_GRACE = 3;
    private static final int ANY_SEATS = 20;
    private static final int ALL = (1 << MOST_PEOPLE) - 1;

    private static final int TEXT_SIGNS = 80;
    private static final int LAND_SIGNS = 76;
    private static final int RULE_SIGNS = 40;
    private static final int WEEK_SIGNS = 40;
    private static final int END = -1;
    private static final int BEYOND = -2;

    private final Text text = new Text();
    private final Numbers told = new Numbers();
    private final Folk folk = new Folk();
    private final Lines lines = new Lines();
    private final Plan plan = new Plan();
    private final Diary diary = new Diary();
    private final Wish wish = new Wish();
    private final Moves moves = new Moves();
    private final Search search = new Search();
    private final Kept[] kept = {new Kept(), new Kept()};

    public EachBringsAnother() {
    }

    // ---- the land

    public int sign(int v) {
        return text.append(v);
    }

    public boolean end(int n) {
        return text.cut(n);
    }

    public int land() {
        int answer = lines.read(text, folk.size);
        text.clear();
        if (answer > 0) {
            lines.settle(folk);
            peopleCame();
        }
        return answer;
    }

    public int rule() {
        int answer = wish.read(text);
        text.clear();
        return answer;
    }

    public int of(int person, int what) throws NoSuchElementException {
        if (!folk.isThere(person)) {
            throw new NoSuchElementException("none such of PEOPLE");
        }
        switch (what) {
            case 0:
                return folk.price[person];
            case 1:
                return folk.knows[person];
            case 2:
                return has(folk.hidden, person) ? 1 : 0;
            case 3:
                return has(folk.strangers(), person) ? 0 : has(folk.guests(), person) ? 1 : 2;
            case 4:
                return Who.late(folk.who, person);
            case 5:
                return folk.brought[person];
            case 6:
                return diary.firstWeekOf(person);
            default:
                throw new NoSuchElementException("nothing such is told of PEOPLE");
        }
    }

    public int law(int what, int v) {
        if (v < 1 || what < 0 || what > 1 || v > (what == 0 ? MOST_GRACE : MOST_PEOPLE)) {
            return NONE;
        }
        int was = what == 0 ? folk.grace : folk.seats;
        if (what == 0) {
            folk.grace = v;
        } else {
            folk.seats = v;
        }
        search.forget();
        return was;
    }

    public boolean meet(int one, int other, boolean is) {
        if (!areTwo(one, other)) {
            return false;
        }
        folk.knows[one] = with(folk.knows[one], other, is);
        folk.knows[other] = with(folk.knows[other], one, is);
        search.forget();
        return true;
    }

    public boolean hide(int person, boolean is) {
        if (!folk.isThere(person)) {
            return false;
        }
        folk.hidden = with(folk.hidden, person, is);
        search.forget();
        return true;
    }

    public int baby(int knows) {
        if (folk.size >= MOST_PEOPLE || (knows & ~folk.everybody()) != 0) {
            return NONE;
        }
        folk.add(0, knows);
        peopleCame();
        return folk.size - 1;
    }

    public int sheet(int kind, int n, int f, int step) {
        if (kind < 0 || kind > 3 || n > MOST_PEOPLE) {
            return NONE;
        }
        if (kind == 3) {
            Arrays.fill(folk.price, 0);
            return TOO_MANY;
        }
        if (n < 0) {
            return NOTHING;
        }
        for (int p = 0; p < folk.size; p++) {
            folk.price[p] = p < n ? entry(kind, f + p * step) : 0;
        }
        return folk.pricesOf(folk.everybody());
    }

    // ---- weeks

    public int week() {
        int answer = plan.read(text);
        text.clear();
        if (answer < 0) {
            return answer;
        }
        if (diary.weeks >= MOST_WEEKS) {
            return NO_MORE_WEEKS;
        }
        int wrong = plan.firstWrongPair(folk);
        if (wrong >= 0) {
            return WRONG_PAIR - wrong;
        }
        if (plan.size > 0 && folk.guestsAfter(plan.movers) > folk.seats) {
            return NO_SEATS;
        }
        return pass();
    }

    public int goes(int n) {
        if (!isWeek(n)) {
            return NONE;
        }
        int passed = 0;
        int cost = 0;
        while (passed < n && diary.weeks < MOST_WEEKS && folk.guests() != 0) {
            plan.follow(wish, folk, diary.weeks);
            cost += pass();
            passed++;
        }
        told.tell(folk.guests(), cost);
        return passed;
    }

    public int undo() {
        if (!diary.goBack(folk)) {
            return NONE;
        }
        search.forget();
        return diary.weeks;
    }

    public int can() {
        moves.gather(folk, folk.who, folk.seats);
        int movers = 0;
        for (int k = 0; k < moves.size; k++) {
            movers |= moves.moversOf(k);
        }
        told.tell(movers & folk.strangers());
        return movers & folk.guests();
    }

    public int picks(int person) {
        if (!has(folk.guests(), person)) {
            return NONE;
        }
        plan.follow(wish, folk, diary.weeks);
        int whom = plan.whom(person);
        return whom == NONE ? NOTHING : whom;
    }

    public int pairs() {
        int largest = largestWeek();
        moves.tellPairs(largest, told);
        return told.size;
    }

    public int bars() {
        int guests = folk.guests();
        int fewer = Integer.bitCount(guests) - Integer.bitCount(moves.moversOf(largestWeek())) / 2;
        for (int some = 0; some <= guests; some++) {
            int known = folk.knownBy(some) & folk.free();
            if ((some & ~guests) == 0 && Integer.bitCount(some) - Integer.bitCount(known) == fewer) {
                told.tell(fewer, known);
                return some;
            }
        }
        return NONE;
    }

    // ---- what can come

    public int states() {
        if (!search.run(folk, moves)) {
            return TOO_MANY;
        }
        int without = 0;
        for (int s = 0; s < search.size; s++) {
            without += search.guests(s) == 0 ? 1 : 0;
        }
        told.tell(without, search.mostGuests());
        return search.size;
    }

    public int most(int n) {
        if (!isWeek(n)) {
            return NONE;
        }
        if (!search.run(folk, moves)) {
            return TOO_MANY;
        }
        int most = 0;
        int number = 0;
        for (int s = 0; s < search.size; s++) {
            if (search.canBe(s, n)) {
                most = Math.max(most, Integer.bitCount(search.guests(s)));
                number++;
            }
        }
        told.tell(number);
        return most;
    }

    public int reach(int n) {
        if (!isWeek(n)) {
            return NONE;
        }
        if (!search.run(folk, moves)) {
            return TOO_MANY;
        }
        int some = 0;
        int always = ALL;
        for (int s = 0; s < search.size; s++) {
            if (search.canBe(s, n) && search.guests(s) != 0) {
                some |= search.guests(s);
                always &= search.guests(s);
            }
        }
        told.tell(some & always);
        return some;
    }

    public int fewest(int n) {
        if (!isWeek(n)) {
            return NONE;
        }
        if (!search.run(folk, moves)) {
            return TOO_MANY;
        }
        int fewest = search.fewestGuests(n);
        return fewest == NONE ? NOTHING : fewest;
    }

    public int crowd() {
        if (!search.run(folk, moves)) {
            return TOO_MANY;
        }
        int most = search.mostGuests();
        long when = 0;
        for (int s = 0; s < search.size; s++) {
            if (Integer.bitCount(search.guests(s)) == most) {
                when |= search.weeksOf(s);
            }
        }
        int first = firstWeek(when);
        int least = NONE;
        for (int s = 0; s < search.size; s++) {
            if (Integer.bitCount(search.guests(s)) == most && search.canBe(s, first)) {
                least = less(least, search.paidFor(s, folk));
            }
        }
        told.tell(most, least);
        return first;
    }

    public int both(int one, int other, int n) {
        if (!areTwo(one, other) || !isWeek(n)) {
            return NONE;
        }
        if (!search.run(folk, moves)) {
            return TOO_MANY;
        }
        int least = search.leastPaid(1 << one | 1 << other, n, folk);
        return least == NONE ? NOTHING : least;
    }

    public int last() {
        if (!search.run(folk, moves)) {
            return TOO_MANY;
        }
        int last = search.lastWeek(0, 0);
        if (last == NONE) {
            return NOTHING;
        }
        told.tell(search.fewestGuests(last));
        return last;
    }

    public int begin() {
        if (!search.run(folk, moves)) {
            return TOO_MANY;
        }
        int last = search.lastWeek(0, 0);
        if (last <= 0) {
            return NOTHING;
        }
        search.lookBack(folk, moves, 0, NONE);
        tellFirstWeek(last);
        return told.size;
    }

    public int cheap(int n) {
        if (!isWeek(n)) {
            return NONE;
        }
        if (!search.run(folk, moves)) {
            return TOO_MANY;
        }
        int least = search.leastPaid(0, n, folk);
        if (least == NONE) {
            return NOTHING;
        }
        if (n == 0) {
            told.clear();
            return least;
        }
        search.lookBack(folk, moves, 0, least);
        tellFirstWeek(n);
        return least;
    }

    public int stays(int person) {
        if (!folk.isThere(person)) {
            return NONE;
        }
        if (!search.run(folk, moves)) {
            return TOO_MANY;
        }
        if (!has(folk.guests(), person)) {
            return NOTHING;
        }
        int weeks = search.lastWeek(1 << person, 0);
        int whom = NONE;
        if (weeks > 0) {
            search.lookBack(folk, moves, 1 << person, NONE);
            whom = firstToBring(person, weeks);
        }
        told.tell(whom);
        return weeks;
    }

    public int soonest(int person) {
        if (!folk.isThere(person)) {
            return NONE;
        }
        if (!search.run(folk, moves)) {
            return TOO_MANY;
        }
        int first = firstWeek(search.weeksWith(1 << person, 0));
        return first == NONE ? NOTHING : first;
    }

    public int worth(int person) {
        if (!has(folk.free(), person)) {
            return NONE;
        }
        if (!search.run(folk, moves)) {
            return TOO_MANY;
        }
        int last = search.lastWeek(0, 0);
        return last == NONE ? NOTHING : last - search.lastWeek(0, 1 << person);
    }

    public int needed() {
        if (!search.run(folk, moves)) {
            return TOO_MANY;
        }
        int last = search.lastWeek(0, 0);
        if (last == NONE) {
            return NOTHING;
        }
        int needed = 0;
        for (int p = 0; p < folk.size; p++) {
            if (has(folk.free(), p) && search.lastWeek(0, 1 << p) < last) {
                needed |= 1 << p;
            }
        }
        return needed;
    }

    public int never() {
        if (!search.run(folk, moves)) {
            return TOO_MANY;
        }
        int ever = 0;
        for (int s = 0; s < search.size; s++) {
            ever |= search.guests(s);
        }
        return folk.strangers() & ~ever;
    }

    // ---- bounds (no search)

    public int bound() {
        int guests = folk.guests();
        if (guests == 0) {
            return NOTHING;
        }
        int together = guests;
        for (int k = 0; k < MOST_PEOPLE; k++) {
            together |= folk.knownBy(together) & folk.free();
        }
        int leastLate = MOST_GRACE;
        for (int p = 0; p < folk.size; p++) {
            if (has(guests, p)) {
                leastLate = Math.min(leastLate, Who.late(folk.who, p));
            }
        }
        return folk.grace * Integer.bitCount(together & ~guests) + Math.max(1, folk.grace - leastLate) - 1;
    }

    public int far(int person) {
        if (!folk.isThere(person)) {
            return NONE;
        }
        if (has(folk.guests(), person)) {
            told.clear();
            return 0;
        }
        if (!has(folk.free(), person)) {
            return NOTHING;
        }
        int near = folk.knownBy(folk.guests());
        int steps = NONE;
        for (int k = 0; k < folk.size && steps == NONE; k++) {
            steps = (folk.within(person, k) & near) != 0 ? k : NONE;
        }
        if (steps == NONE) {
            return NOTHING;
        }
        tellWay(person, steps, near);
        return steps + 1;
    }

    // ---- who led whom

    public int line(int person) {
        if (!folk.isThere(person)) {
            return NONE;
        }
        told.clear();
        int by = folk.broughtBy(person);
        for (int k = 0; k < folk.size && by != NONE; k++) {
            told.putFirst(by);
            by = folk.broughtBy(by);
        }
        return told.size;
    }

    public int led(int person) {
        if (!folk.isThere(person)) {
            return NONE;
        }
        int own = 0;
        int deepest = 0;
        for (int p = 0; p < folk.size; p++) {
            own += folk.broughtBy(p) == person ? 1 : 0;
            deepest = Math.max(deepest, folk.stepsUp(p, person));
        }
        told.tell(own, deepest);
        return folk.ledBy(person);
    }

    public int was(int week) {
        return week < 0 || week > diary.weeks ? NONE : diary.guestsBehind(week);
    }

    public int common(int one, int other) {
        if (!areTwo(one, other)) {
            return NONE;
        }
        int it = one;
        for (int k = 0; k < folk.size && it != NONE; k++) {
            if (folk.stepsUp(other, it) >= 0) {
                return it;
            }
            it = folk.broughtBy(it);
        }
        return NOTHING;
    }

    public int father() {
        int first = NONE;
        int most = 0;
        for (int p = 0; p < folk.size; p++) {
            int number = Integer.bitCount(folk.ledBy(p));
            if (number > most) {
                first = p;
                most = number;
            }
        }
        if (first == NONE) {
            return NOTHING;
        }
        told.tell(most);
        return first;
    }

    // ---- kept

    public boolean keep(int i) {
        if (i < 0 || i >= kept.length) {
            return false;
        }
        kept[i].take(folk, diary);
        return true;
    }

    public boolean again(int i) {
        if (i < 0 || i >= kept.length || !kept[i].fits(folk)) {
            return false;
        }
        kept[i].giveBack(folk, diary);
        search.forget();
        return true;
    }

    public int count(int what) {
        switch (what) {
            case 0:
                return folk.size;
            case 1:
                return diary.weeks;
            case 2:
                return folk.guests();
            case 3:
                return folk.strangers();
            case 4:
                return Who.out(folk.who);
            case 5:
                return folk.paid;
            case 6:
                return diary.undoable;
            case 7:
                return told.size;
            case 8:
                return text.length;
            case 9:
                return folk.hidden;
            default:
                return NONE;
        }
    }

    public int row(int i) throws NoSuchElementException {
        if (i < 0 || i >= told.size) {
            throw new NoSuchElementException("the ROW has no such number");
        }
        return told.number(i);
    }

    // ---- helpers of several calls

    private static boolean has(int bits, int p) {
        return p >= 0 && p < MOST_PEOPLE && (bits >> p & 1) != 0;
    }

    private static int with(int bits, int p, boolean is) {
        return is ? bits | 1 << p : bits & ~(1 << p);
    }

    /** The first of some; NONE of none. */
    private static int lowest(int bits) {
        return bits == 0 ? NONE : Integer.bitCount((bits & -bits) - 1);
    }

    private static boolean isWeek(int n) {
        return n >= 0 && n <= MOST_WEEKS;
    }

    private boolean areTwo(int one, int other) {
        return one != other && folk.isThere(one) && folk.isThere(other);
    }

    /** The smaller of two amounts, of which the first may be none yet. */
    private static int less(int least, int amount) {
        return least == NONE || amount < least ? amount : least;
    }

    private static int firstWeek(long when) {
        for (int t = 0; t <= MOST_WEEKS; t++) {
            if ((when >> t & 1) != 0) {
                return t;
            }
        }
        return NONE;
    }

    private static int entry(int kind, int v) {
        int told = kind == 0 ? (byte) v : kind == 1 ? (short) v : v;
        return Math.max(0, Math.min(9, told));
    }

    private void peopleCame() {
        diary.noteGuests(folk.guests());
        diary.undoable = 0;
        search.forget();
    }

    /** The WEEK that is planned goes by: what it cost. */
    private int pass() {
        diary.noteAhead(folk);
        int cost = 0;
        for (int k = 0; k < plan.size; k++) {
            cost += folk.bring(plan.bringer(k), plan.whomOf(k));
        }
        folk.paid += cost;
        folk.who = Who.after(folk.who, plan.movers, folk.grace);
        diary.weeks++;
        diary.noteGuests(folk.guests());
        search.forget();
        return cost;
    }

    /** The first of the next WEEKS with the most PAIRS, whatever SEATS are: its place in moves. */
    private int largestWeek() {
        moves.gather(folk, folk.who, ANY_SEATS);
        int largest = 0;
        for (int k = 1; k < moves.size; k++) {
            if (Integer.bitCount(moves.moversOf(k)) > Integer.bitCount(moves.moversOf(largest))) {
                largest = k;
            }
        }
        return largest;
    }

    /** The ROW tells the least first WEEK with which what was looked back for comes behind n WEEKS. */
    private void tellFirstWeek(int n) {
        moves.gather(folk, folk.who, folk.seats);
        int first = firstThatLeads(n);
        if (first != NONE) {
            moves.tellPairs(first, told);
        }
    }

    private int firstThatLeads(int n) {
        for (int k = 0; k < moves.size; k++) {
            int then = Who.after(folk.who, moves.moversOf(k), folk.grace);
            if (search.leads(then, n - 1)) {
                return k;
            }
        }
        return NONE;
    }

    private int firstToBring(int person, int weeks) {
        int others = folk.guests() & ~(1 << person);
        moves.gatherBehind(folk, others, 0);
        if (firstThatLeads(weeks) != NONE) {
            return NONE;
        }
        for (int whom = 0; whom < folk.size; whom++) {
            if (has(folk.knownBy(1 << person) & folk.free(), whom)) {
                moves.gatherBehind(folk, others, 1 << person | 1 << whom);
                if (firstThatLeads(weeks) != NONE) {
                    return whom;
                }
            }
        }
        return NONE;
    }

    /** The ROW tells the least way of so many steps to one from those near, without itself. */
    private void tellWay(int person, int steps, int near) {
        told.clear();
        int open = near;
        for (int left = steps; left > 0; left--) {
            int next = lowest(open & folk.within(person, left));
            told.put(next);
            open = folk.knownBy(1 << next);
        }
    }

    // ---- classes inside

    /** THE TEXT. */
    private static final class Text {
        private final char[] signs = new char[TEXT_SIGNS];
        private int length;

        int append(int v) {
            if (length + 4 > signs.length) {
                return NONE;
            }
            for (int shift = 24; shift >= 0; shift -= 8) {
                signs[length] = (char) (v >> shift & 255);
                length++;
            }
            return length;
        }

        boolean cut(int n) {
            if (n < 0 || n > length) {
                return false;
            }
            length = n;
            return true;
        }

        void clear() {
            length = 0;
        }

        /** END behind the last sign; BEYOND, which can stand nowhere, from the limit on. */
        int signAt(int p, int limit) {
            if (p < 0 || p >= length) {
                return END;
            }
            return p >= limit ? BEYOND : signs[p];
        }
    }

    /** THE ROW. */
    private static final class Numbers {
        private final int[] numbers = new int[2 * MOST_PEOPLE];
        private int size;

        void clear() {
            size = 0;
        }

        void put(int v) {
            if (size < numbers.length) {
                numbers[size] = v;
                size++;
            }
        }

        void putFirst(int v) {
            put(v);
            for (int i = size - 1; i > 0; i--) {
                numbers[i] = numbers[i - 1];
                numbers[i - 1] = v;
            }
        }

        void tell(int v) {
            clear();
            put(v);
        }

        void tell(int v, int w) {
            tell(v);
            put(w);
        }

        int number(int i) {
            return i >= 0 && i < size ? numbers[i] : NONE;
        }
    }

    /**
     * A STATE in one int, so that it can be looked up at once: of each of PEOPLE three bits (0 a STRANGER, 1 .. 3 a
     * GUEST with LATE 0 .. 2, 4 OUT), the lowest ones of all in bits 0 .. 9, then the middle ones, then the highest.
     */
    private static final class Who {
        static int guests(int who) {
            return (who | who >> MOST_PEOPLE) & ALL;
        }

        static int out(int who) {
            return who >> 2 * MOST_PEOPLE & ALL;
        }

        static int known(int who) {
            return (who | who >> MOST_PEOPLE | who >> 2 * MOST_PEOPLE) & ALL;
        }

        static int late(int who, int p) {
            return has(guests(who), p) ? (who >> p & 1) + 2 * (who >> MOST_PEOPLE + p & 1) - 1 : NONE;
        }

        /** GUESTS who will be LATE 1 and 2 behind a WEEK, if they bring nobody. */
        static int lateOne(int who, int grace) {
            return grace > 1 ? who & ~(who >> MOST_PEOPLE) & ALL : 0;
        }

        static int lateTwo(int who, int grace) {
            return grace > 2 ? who >> MOST_PEOPLE & ~who & ALL : 0;
        }

        static int stay(int who, int grace) {
            return lateOne(who, grace) | lateTwo(who, grace);
        }

        /** Behind a WEEK in which the movers bring or are brought. */
        static int after(int who, int movers, int grace) {
            int one = lateOne(who, grace) & ~movers;
            int two = lateTwo(who, grace) & ~movers;
            int out = out(who) | guests(who) & ~(movers | one | two);
            return movers | two | (one | two) << MOST_PEOPLE | out << 2 * MOST_PEOPLE;
        }

        /** Greater behind each WEEK, as long as somebody is a GUEST: STRANGERS get fewer, or all GUESTS are later. */
        static int rank(int who) {
            int lateness = Integer.bitCount(who & ALL) + 2 * Integer.bitCount(who >> MOST_PEOPLE & ALL)
                    + 4 * Integer.bitCount(out(who));
            return Integer.bitCount(known(who)) * (4 * MOST_PEOPLE + 1) + lateness;
        }
    }

    /** PEOPLE and THE LAW, as they are now. */
    private static final class Folk {
        private final int[] price = new int[MOST_PEOPLE];
        private final int[] knows = new int[MOST_PEOPLE];
        private final int[] brought = new int[MOST_PEOPLE];
        private int size;
        private int who;
        private int hidden;
        private int paid;
        private int grace = 1;
        private int seats = MOST_PEOPLE;

        boolean isThere(int p) {
            return p >= 0 && p < size;
        }

        int everybody() {
            return (1 << size) - 1;
        }

        int guests() {
            return Who.guests(who);
        }

        int strangers() {
            return everybody() & ~Who.known(who);
        }

        int free() {
            return strangers() & ~hidden;
        }

        int guestsAfter(int movers) {
            return Integer.bitCount(Who.stay(who, grace) | movers);
        }

        int knownBy(int some) {
            int known = 0;
            for (int p = 0; p < size; p++) {
                known |= has(some, p) ? knows[p] : 0;
            }
            return known;
        }

        int pricesOf(int some) {
            int sum = 0;
            for (int p = 0; p < size; p++) {
                sum += has(some, p) ? price[p] : 0;
            }
            return sum;
        }

        void add(int itsPrice, int itsKnown) {
            if (size >= MOST_PEOPLE) {
                return;
            }
            price[size] = itsPrice;
            knows[size] = itsKnown;
            brought[size] = NONE;
            for (int p = 0; p < size; p++) {
                knows[p] = with(knows[p], size, has(itsKnown, p));
            }
            size++;
        }

        int bring(int one, int other) {
            if (!isThere(one) || !isThere(other)) {
                return 0;
            }
            brought[other] = one;
            return price[other];
        }

        int broughtBy(int p) {
            return isThere(p) ? brought[p] : NONE;
        }

        /** How often one has to go to who BROUGHT it to come to another one. */
        int stepsUp(int p, int to) {
            int at = p;
            for (int k = 0; k < size && at != NONE; k++) {
                if (at == to) {
                    return k;
                }
                at = broughtBy(at);
            }
            return NONE;
        }

        int ledBy(int person) {
            int led = 0;
            for (int p = 0; p < size; p++) {
                led |= stepsUp(p, person) > 0 ? 1 << p : 0;
            }
            return led;
        }

        /** STRANGERS, not HIDDEN, from whom so many steps or fewer lead to one by such STRANGERS. */
        int within(int person, int steps) {
            int some = 1 << person & free();
            for (int k = 0; k < steps; k++) {
                some |= knownBy(some) & free();
            }
            return some;
        }
    }

    /** LINES of THE LAND, as a text tells them. */
    private static final class Lines {
        private final int[] price = new int[MOST_PEOPLE];
        private final int[] knows = new int[MOST_PEOPLE];
        private int guests;
        private int hidden;
        private int size;
        private int at;

        int read(Text text, int ahead) {
            guests = 0;
            hidden = 0;
            size = 0;
            at = 0;
            if (text.length == 0) {
                return 0;
            }
            for (int number = ahead; number < MOST_PEOPLE; number++) {
                if (!readLine(text, number)) {
                    return -1 - at;
                }
                int sign = text.signAt(at, LAND_SIGNS);
                if (sign == END) {
                    return size;
                }
                if (sign != ';') {
                    return -1 - at;
                }
                at++;
            }
            return -1 - at;
        }

        private boolean readLine(Text text, int number) {
            int digit = text.signAt(at, LAND_SIGNS);
            if (digit < '0' || digit > '9' || size >= MOST_PEOPLE) {
                return false;
            }
            at++;
            price[size] = digit - '0';
            knows[size] = 0;
            for (int other = 0; other < number; other++) {
                knows[size] |= take(text, 'a' + other) ? 1 << other : 0;
            }
            guests |= take(text, '!') ? 1 << number : 0;
            hidden |= take(text, '?') ? 1 << number : 0;
            size++;
            return true;
        }

        private boolean take(Text text, int sign) {
            boolean is = text.signAt(at, LAND_SIGNS) == sign;
            at += is ? 1 : 0;
            return is;
        }

        void settle(Folk folk) {
            for (int k = 0; k < size; k++) {
                folk.add(price[k], knows[k]);
            }
            folk.who |= guests;
            folk.hidden |= hidden;
        }
    }

    /** PAIRS of the next WEEK. */
    private static final class Plan {
        private final int[] bringers = new int[MOST_PEOPLE];
        private final int[] brought = new int[MOST_PEOPLE];
        private int size;
        private int movers;

        void clear() {
            size = 0;
            movers = 0;
        }

        void add(int one, int other) {
            if (size < MOST_PEOPLE) {
                bringers[size] = one;
                brought[size] = other;
                size++;
            }
            movers |= 1 << one | 1 << other;
        }

        int bringer(int k) {
            return k >= 0 && k < size ? bringers[k] : NONE;
        }

        int whomOf(int k) {
            return k >= 0 && k < size ? brought[k] : NONE;
        }

        int whom(int person) {
            for (int k = 0; k < size; k++) {
                if (bringers[k] == person) {
                    return brought[k];
                }
            }
            return NONE;
        }

        int read(Text text) {
            clear();
            if (text.length == 0) {
                return 0;
            }
            for (int p = 0; p < WEEK_SIGNS; p += 4) {
                for (int q = p; q < p + 3; q++) {
                    int sign = text.signAt(q, WEEK_SIGNS);
                    if (q == p + 1 ? sign != '>' : sign < 'a' || sign >= 'a' + MOST_PEOPLE) {
                        return -1 - q;
                    }
                }
                add(text.signAt(p, WEEK_SIGNS) - 'a', text.signAt(p + 2, WEEK_SIGNS) - 'a');
                int sign = text.signAt(p + 3, WEEK_SIGNS);
                if (sign == END) {
                    return 0;
                }
                if (sign != ';') {
                    return -1 - (p + 3);
                }
            }
            return -1 - WEEK_SIGNS;
        }

        int firstWrongPair(Folk folk) {
            int moved = 0;
            for (int k = 0; k < size; k++) {
                int can = has(folk.guests() & ~moved, bringers[k]) ? folk.knownBy(1 << bringers[k]) : 0;
                if (!has(can & folk.free() & ~moved, brought[k])) {
                    return k;
                }
                moved |= 1 << bringers[k] | 1 << brought[k];
            }
            return NONE;
        }

        /** The next WEEK by THE RULE. */
        void follow(Wish wish, Folk folk, int weeks) {
            clear();
            for (int one = 0; one < folk.size; one++) {
                int open = has(folk.guests(), one) ? folk.knows[one] & folk.free() & ~movers : 0;
                int other = wish.favourite(folk, one, open, weeks);
                if (other != NONE && folk.guestsAfter(movers | 1 << one | 1 << other) <= folk.seats) {
                    add(one, other);
                }
            }
        }
    }

    /** WEEKS that went by. */
    private static final class Diary {
        private final int[] guests = new int[MOST_WEEKS + 1];
        private final int[] whoAhead = new int[MOST_WEEKS + 1];
        private final int[] paidAhead = new int[MOST_WEEKS + 1];
        private int weeks;
        private int undoable;

        boolean isOne(int week) {
            return week >= 0 && week <= MOST_WEEKS && week <= weeks;
        }

        int guestsBehind(int week) {
            return isOne(week) ? guests[week] : 0;
        }

        int firstWeekOf(int person) {
            for (int week = 0; week <= weeks; week++) {
                if (has(guestsBehind(week), person)) {
                    return week;
                }
            }
            return NONE;
        }

        void noteGuests(int now) {
            if (isOne(weeks)) {
                guests[weeks] = now;
            }
        }

        void noteAhead(Folk folk) {
            if (isOne(weeks)) {
                whoAhead[weeks] = folk.who;
                paidAhead[weeks] = folk.paid;
                undoable++;
            }
        }

        boolean goBack(Folk folk) {
            if (undoable == 0 || !isOne(weeks - 1)) {
                return false;
            }
            undoable--;
            weeks--;
            folk.who = whoAhead[weeks];
            folk.paid = paidAhead[weeks];
            for (int p = 0; p < folk.size; p++) {
                if (has(folk.strangers(), p)) {
                    folk.brought[p] = NONE;
                }
            }
            return true;
        }
    }

    /** What is kept under a number. */
    private static final class Kept {
        private final int[] brought = new int[MOST_PEOPLE];
        private final int[] guests = new int[MOST_WEEKS + 1];
        private boolean is;
        private int size;
        private int who;
        private int hidden;
        private int paid;
        private int grace;
        private int seats;
        private int weeks;

        boolean fits(Folk folk) {
            return is && size == folk.size;
        }

        void take(Folk folk, Diary diary) {
            is = true;
            size = folk.size;
            who = folk.who;
            hidden = folk.hidden;
            paid = folk.paid;
            grace = folk.grace;
            seats = folk.seats;
            weeks = diary.weeks;
            System.arraycopy(folk.brought, 0, brought, 0, MOST_PEOPLE);
            System.arraycopy(diary.guests, 0, guests, 0, MOST_WEEKS + 1);
        }

        void giveBack(Folk folk, Diary diary) {
            folk.who = who;
            folk.hidden = hidden;
            folk.paid = paid;
            folk.grace = grace;
            folk.seats = seats;
            diary.weeks = weeks;
            diary.undoable = 0;
            System.arraycopy(brought, 0, folk.brought, 0, MOST_PEOPLE);
            System.arraycopy(guests, 0, diary.guests, 0, MOST_WEEKS + 1);
        }
    }

    /**
     * THE RULE, told with each operator behind its things: a NUMBER as itself, everything else as minus its sign
     * (NEGATE, which is no sign, for a - ahead of a thing).
     */
    private static final class Wish {
        private static final int NEGATE = 256;
        private static final int MOST_DEEP = 4;

        private final int[] code = new int[RULE_SIGNS];
        private final int[] draft = new int[RULE_SIGNS];
        private final int[] waiting = new int[RULE_SIGNS];
        private final int[] stack = new int[RULE_SIGNS];
        private int length;
        private int drafted;
        private int waits;
        private int deep;
        private int digits;
        private int compared;
        private boolean wantsThing;

        int read(Text text) {
            if (text.length == 0) {
                length = 0;
                return 0;
            }
            drafted = 0;
            waits = 0;
            deep = 0;
            digits = 0;
            compared = 0;
            wantsThing = true;
            for (int p = 0; p < text.length; p++) {
                int sign = text.signAt(p, RULE_SIGNS);
                if (!(wantsThing ? takeThing(sign) : takeBehindThing(sign))) {
                    return -1 - p;
                }
            }
            if (wantsThing || deep > 0) {
                return -1 - text.length;
            }
            release(1);
            System.arraycopy(draft, 0, code, 0, drafted);
            length = drafted;
            return 0;
        }

        private boolean takeThing(int sign) {
            if (sign == '-') {
                await(NEGATE);
                return true;
            }
            if (sign == '(' && deep < MOST_DEEP) {
                deep++;
                compared &= ~(1 << deep);
                await(sign);
                return true;
            }
            boolean isDigit = sign >= '0' && sign <= '9';
            if (!isDigit && !isLetter(sign)) {
                return false;
            }
            write(isDigit ? sign - '0' : -sign);
            digits = isDigit ? 1 : 0;
            wantsThing = false;
            return true;
        }

        private boolean takeBehindThing(int sign) {
            if (sign >= '0' && sign <= '9') {
                return takeDigit(sign - '0');
            }
            digits = 0;
            if (sign == ')' && deep > 0) {
                deep--;
                release(1);
                waits -= waits > 0 ? 1 : 0;
                return true;
            }
            int strength = strength(sign);
            if (strength == 0 || strength == 1 && (compared >> deep & 1) != 0) {
                return false;
            }
            compared |= strength == 1 ? 1 << deep : 0;
            release(strength);
            await(sign);
            wantsThing = true;
            return true;
        }

        private boolean takeDigit(int digit) {
            if (digits == 0 || digits == 3 || drafted == 0) {
                return false;
            }
            draft[drafted - 1] = draft[drafted - 1] * 10 + digit;
            digits++;
            return true;
        }

        private static boolean isLetter(int sign) {
            switch (sign) {
                case 'i':
                case 'p':
                case 'k':
                case 's':
                case 'g':
                case 'l':
                case 'n':
                case 'w':
                    return true;
                default:
                    return false;
            }
        }

        /** How strongly an operator binds; 0 for what is none, as ( that nothing behind it passes. */
        private static int strength(int sign) {
            switch (sign) {
                case '<':
                case '>':
                case '=':
                    return 1;
                case '+':
                case '-':
                    return 2;
                case '*':
                case '/':
                    return 3;
                case NEGATE:
                    return 4;
                default:
                    return 0;
            }
        }

        private void write(int v) {
            if (drafted < draft.length) {
                draft[drafted] = v;
                drafted++;
            }
        }

        private void await(int operator) {
            if (waits < waiting.length) {
                waiting[waits] = operator;
                waits++;
            }
        }

        /** Operators that wait and bind so strongly at least are written now. */
        private void release(int strength) {
            for (int k = waits - 1; k >= 0 && strength(waiting[k]) >= strength; k--) {
                write(-waiting[k]);
                waits = k;
            }
        }

        /** Of some STRANGERS the one that one would bring by THE RULE. */
        int favourite(Folk folk, int one, int open, int weeks) {
            int best = NONE;
            int greatest = -1;
            for (int other = 0; other < folk.size; other++) {
                if (has(open, other)) {
                    int v = value(folk, one, other, weeks);
                    if (v > greatest) {
                        best = other;
                        greatest = v;
                    }
                }
            }
            return best;
        }

        private int value(Folk folk, int one, int other, int weeks) {
            int top = 0;
            stack[0] = 0;
            for (int k = 0; k < length; k++) {
                int sign = -code[k];
                if (sign == NEGATE && top > 0) {
                    stack[top - 1] = -stack[top - 1];
                } else if (strength(sign) > 0 && top > 1) {
                    top--;
                    stack[top - 1] = operate(sign, stack[top - 1], stack[top]);
                } else if (top < stack.length) {
                    stack[top] = sign <= 0 ? -sign : thing(sign, folk, one, other, weeks);
                    top++;
                }
            }
            return stack[0];
        }

        private static int operate(int sign, int a, int b) {
            switch (sign) {
                case '<':
                    return a < b ? 1 : 0;
                case '>':
                    return a > b ? 1 : 0;
                case '=':
                    return a == b ? 1 : 0;
                case '+':
                    return a + b;
                case '-':
                    return a - b;
                case '*':
                    return a * b;
                default:
                    return b == 0 ? 0 : a / b;
            }
        }

        private static int thing(int sign, Folk folk, int one, int other, int weeks) {
            int known = folk.knownBy(1 << other);
            switch (sign) {
                case 'i':
                    return other;
                case 'p':
                    return folk.pricesOf(1 << other);
                case 'k':
                    return Integer.bitCount(known);
                case 's':
                    return Integer.bitCount(known & folk.strangers());
                case 'g':
                    return Integer.bitCount(known & folk.guests());
                case 'l':
                    return Who.late(folk.who, one);
                case 'n':
                    return one;
                default:
                    return weeks;
            }
        }
    }

    /**
     * All WEEKS that may be next, each told by who brings or is brought in it, as all else of it does not matter to
     * what comes then. They come by their least rows of PAIRS, one that another one begins with ahead of it.
     */
    private static final class Moves {
        private static final int MOST = 256;

        private final int[] movers = new int[MOST];
        private final int[] parent = new int[MOST];
        private final int[] seen = new int[ALL + 1];
        private int size;
        private int round;
        private Folk folk;
        private int bringers;
        private int free;
        private int stay;
        private int seats;

        void gather(Folk of, int who, int most) {
            prepare(of, who, Who.guests(who), most);
            spread(0, 0, NONE);
        }

        /** Those in which some have moved already, and some others may. */
        void gatherBehind(Folk of, int others, int moved) {
            prepare(of, of.who, others, of.seats);
            if (moved == 0 || Integer.bitCount(stay | moved) <= seats) {
                spread(0, moved, NONE);
            }
        }

        private void prepare(Folk of, int who, int some, int most) {
            folk = of;
            bringers = some;
            free = of.everybody() & ~Who.known(who) & ~of.hidden;
            stay = Who.stay(who, of.grace);
            seats = most;
            size = 0;
            round++;
        }

        /** The movers tell who brings, so how one came to them does not matter to what is behind. */
        private void spread(int from, int moved, int before) {
            if (from > MOST_PEOPLE || size >= MOST || (moved & ~ALL) != 0 || seen[moved] == round) {
                return;
            }
            int here = size;
            seen[moved] = round;
            movers[here] = moved;
            parent[here] = before;
            size++;
            for (int one = from; one < folk.size; one++) {
                int open = has(bringers, one) ? folk.knows[one] & free & ~moved : 0;
                for (int k = 0; k < MOST_PEOPLE && open != 0; k++) {
                    int then = moved | 1 << one | open & -open;
                    open &= open - 1;
                    if (Integer.bitCount(stay | then) <= seats) {
                        spread(one + 1, then, here);
                    }
                }
            }
        }

        int moversOf(int k) {
            return k >= 0 && k < size ? movers[k] : 0;
        }

        void tellPairs(int k, Numbers told) {
            told.clear();
            int at = k;
            for (int step = 0; step < MOST_PEOPLE && at > 0 && at < size; step++) {
                int pair = movers[at] & ~moversOf(parent[at]);
                told.putFirst(10 * lowest(pair & bringers) + lowest(pair & free));
                at = parent[at];
            }
        }
    }

    /** All STATES that can come, with the WEEKS behind which each can be (bit t: behind t WEEKS). */
    private static final class Search {
        private static final int RANKS = MOST_PEOPLE * (4 * MOST_PEOPLE + 1) + 4 * MOST_PEOPLE + 1;
        private static final int SLOTS = 8192;
        private static final long ALL_WEEKS = (1L << MOST_WEEKS + 1) - 1;

        private final int[] slots = new int[SLOTS];
        private final int[] states = new int[MOST_STATES];
        private final long[] when = new long[MOST_STATES];
        private final long[] left = new long[MOST_STATES];
        private final int[] behind = new int[MOST_STATES];
        private final int[] firstOfRank = new int[RANKS];
        private final int[] order = new int[MOST_STATES];
        private int size;
        private int done;
        private boolean fresh;
        private boolean tooMany;

        void forget() {
            fresh = false;
        }

        /** Whether there are no more STATES than can be searched. */
        boolean run(Folk folk, Moves moves) {
            if (fresh) {
                return !tooMany;
            }
            clear();
            place(folk.who, 1);
            // By their ranks, so that all that lead to a STATE are done ahead of it.
            for (int rank = 0; rank < RANKS; rank++) {
                while (done < MOST_STATES && firstOfRank[rank] != NONE && !tooMany) {
                    int s = firstOfRank[rank];
                    firstOfRank[rank] = behind[s];
                    order[done] = s;
                    done++;
                    goOn(s, folk, moves);
                }
            }
            return !tooMany;
        }

        private void clear() {
            Arrays.fill(slots, 0);
            Arrays.fill(firstOfRank, NONE);
            size = 0;
            done = 0;
            tooMany = false;
            fresh = true;
        }

        private void goOn(int s, Folk folk, Moves moves) {
            if (guests(s) == 0) {
                when[s] = -(when[s] & -when[s]) & ALL_WEEKS;
                return;
            }
            moves.gather(folk, states[s], folk.seats);
            for (int k = 0; k < moves.size && !tooMany; k++) {
                place(Who.after(states[s], moves.moversOf(k), folk.grace), when[s] << 1 & ALL_WEEKS);
            }
        }

        private int slotOf(int who) {
            int slot = (who * 0x9E3779B1 >>> 8) % SLOTS;
            for (int k = 0; k < SLOTS; k++) {
                if (slots[slot] == 0 || states[slots[slot] - 1] == who) {
                    return slot;
                }
                slot = (slot + 1) % SLOTS;
            }
            return slot;
        }

        private void place(int who, long weeks) {
            int slot = slotOf(who);
            if (slots[slot] == 0) {
                int rank = Who.rank(who);
                if (size >= MOST_STATES || rank < 0 || rank >= RANKS) {
                    tooMany = true;
                    return;
                }
                states[size] = who;
                when[size] = 0;
                behind[size] = firstOfRank[rank];
                firstOfRank[rank] = size;
                size++;
                slots[slot] = size;
            }
            when[slots[slot] - 1] |= weeks;
        }

        int guests(int s) {
            return s >= 0 && s < size ? Who.guests(states[s]) : 0;
        }

        long weeksOf(int s) {
            return s >= 0 && s < size ? when[s] : 0;
        }

        boolean canBe(int s, int n) {
            return (weeksOf(s) >> n & 1) != 0;
        }

        int mostGuests() {
            int most = 0;
            for (int s = 0; s < size; s++) {
                most = Math.max(most, Integer.bitCount(guests(s)));
            }
            return most;
        }

        int fewestGuests(int n) {
            int fewest = NONE;
            for (int s = 0; s < size; s++) {
                if (canBe(s, n) && guests(s) != 0) {
                    fewest = less(fewest, Integer.bitCount(guests(s)));
                }
            }
            return fewest;
        }

        /** What is paid till a STATE comes depends on it alone: each who was brought by then was brought once. */
        int paidFor(int s, Folk folk) {
            return s >= 0 && s < size ? folk.pricesOf(folk.strangers() & Who.known(states[s])) : 0;
        }

        int leastPaid(int some, int n, Folk folk) {
            int least = NONE;
            for (int s = 0; s < size; s++) {
                if (canBe(s, n) && guests(s) != 0 && (some & ~guests(s)) == 0) {
                    least = less(least, paidFor(s, folk));
                }
            }
            return least;
        }

        /**
         * WEEKS behind which some are all GUESTS (somebody, if there are none), and some others all STRANGERS still:
         * what can come without these is what can come with them HIDDEN.
         */
        long weeksWith(int some, int strangers) {
            long weeks = 0;
            for (int s = 0; s < size; s++) {
                if (guests(s) != 0 && (some & ~guests(s)) == 0 && (Who.known(states[s]) & strangers) == 0) {
                    weeks |= when[s];
                }
            }
            return weeks;
        }

        int lastWeek(int some, int strangers) {
            long weeks = weeksWith(some, strangers);
            for (int t = MOST_WEEKS; t >= 0; t--) {
                if ((weeks >> t & 1) != 0) {
                    return t;
                }
            }
            return NONE;
        }

        /**
         * Notes of all STATES in how many WEEKS they lead to one with some GUESTS for which so much is paid. What each
         * leads to is found again rather than kept, as that would take more room than all else.
         */
        void lookBack(Folk folk, Moves moves, int some, int paid) {
            for (int k = done - 1; k >= 0; k--) {
                int s = order[k];
                boolean is = guests(s) != 0 && (some & ~guests(s)) == 0;
                long weeks = is && (paid == NONE || paidFor(s, folk) == paid) ? 1 : 0;
                left[s] = weeks | leftBehind(s, folk, moves) << 1;
            }
        }

        private long leftBehind(int s, Folk folk, Moves moves) {
            long weeks = 0;
            if (guests(s) != 0) {
                moves.gather(folk, states[s], folk.seats);
                for (int k = 0; k < moves.size; k++) {
                    weeks |= leftOf(Who.after(states[s], moves.moversOf(k), folk.grace));
                }
            }
            return weeks;
        }

        private long leftOf(int who) {
            int s = slots[slotOf(who)] - 1;
            return s >= 0 && s < size ? left[s] : 0;
        }

        boolean leads(int who, int n) {
            return (leftOf(who) >> n & 1) != 0;
        }
    }
}
