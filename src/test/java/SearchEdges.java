/** Edges that promises 19 to 32 name. */
final class SearchEdges {
    private static final int MIN = Integer.MIN_VALUE;
    private static final int MAX = Integer.MAX_VALUE;

    private interface Call {
        int on(EachBringsAnother x);
    }

    private interface AtWeek {
        int on(EachBringsAnother x, int n);
    }

    private SearchEdges() {
    }

    static void all() {
        statesAndGuests();
        crowdBothLast();
        beginAndCheap();
        staysSoonest();
        withoutOne();
    }

    private static void statesAndGuests() {
        Sentences.underPromise(19);
        Sentences.holds("How many STATES", SearchEdges::howManyStates);
        Sentences.holds("in how many of them nobody is a GUEST, the most GUESTS of any", SearchEdges::nobodyAndMost);
        Sentences.holds("-3.", () -> tooMany("states", x -> x.states()));
        Sentences.underPromise(20);
        Sentences.holds("The most GUESTS behind n WEEKS (0 .. 60)", SearchEdges::mostFrom0To60);
        Sentences.holds("in how many STATES that can be just then", SearchEdges::statesJustThen);
        Sentences.holds("-3", () -> tooMany("most(0)", x -> x.most(0)));
        Sentences.holds("NONE: another n.", () -> anotherN("most", (x, n) -> x.most(n)));
        Sentences.underPromise(21);
        Sentences.holds("PEOPLE (bits) who can be GUESTS behind n WEEKS (0 .. 60)", SearchEdges::reachFrom0To60);
        Sentences.holds("those who are in each STATE then in which anybody is (0 without)", SearchEdges::inEachState);
        Sentences.holds("-3", () -> tooMany("reach(0)", x -> x.reach(0)));
        Sentences.holds("NONE: another n.", () -> anotherN("reach", (x, n) -> x.reach(n)));
        Sentences.underPromise(22);
        Sentences.holds("The fewest GUESTS behind n WEEKS (0 .. 60) with somebody still one", SearchEdges::fewestFrom0To60);
        Sentences.holds("-2: nobody can be", SearchEdges::nobodyCanBe);
        Sentences.holds("-3", () -> tooMany("fewest(0)", x -> x.fewest(0)));
        Sentences.holds("NONE: another n.", () -> anotherN("fewest", (x, n) -> x.fewest(n)));
    }

    private static void crowdBothLast() {
        Sentences.underPromise(23);
        Sentences.holds("The fewest WEEKS behind which there are as many GUESTS as there ever can be", SearchEdges::asManyAsEver);
        Sentences.holds("the least that is paid for that by then", SearchEdges::leastPaidByThen);
        Sentences.holds("-3.", () -> tooMany("crowd", x -> x.crowd()));
        Sentences.underPromise(24);
        Sentences.holds("both GUESTS behind n WEEKS (0 .. 60)", SearchEdges::bothFrom0To60);
        Sentences.holds("-2: they can't be", SearchEdges::theyCantBe);
        Sentences.holds("-3", () -> tooMany("both(0, 1, 1)", x -> x.both(0, 1, 1)));
        Sentences.holds("NONE: others.", SearchEdges::bothOfOthers);
        Sentences.underPromise(25);
        Sentences.holds("how many (0: just now)", SearchEdges::justNow);
        Sentences.holds("the ROW: the fewest GUESTS that can be then", SearchEdges::fewestThen);
        Sentences.holds("-3", () -> tooMany("last", x -> x.last()));
        Sentences.holds("-2: nobody is one now.", SearchEdges::lastOfNobody);
    }

    private static void beginAndCheap() {
        Sentences.underPromise(26);
        Sentences.holds("How many PAIRS a first WEEK has with which last() can come", SearchEdges::firstWeeks);
        Sentences.holds("the least row (one that another one begins with is less)", SearchEdges::leastFirstWeek);
        Sentences.holds("-3", () -> tooMany("begin", x -> x.begin()));
        Sentences.holds("-2: nobody is a GUEST now", SearchEdges::beginOfNobody);
        Sentences.holds("or last() is 0", SearchEdges::beginOfLast0);
        Sentences.underPromise(27);
        Sentences.holds("somebody is a GUEST behind n WEEKS (0 .. 60)", SearchEdges::cheapFrom0To60);
        Sentences.holds("in all the least row (one that another one begins with is less)", SearchEdges::leastCheapWeek);
        Sentences.holds("-2: it can't be", SearchEdges::itCantBe);
        Sentences.holds("-3", () -> tooMany("cheap(0)", x -> x.cheap(0)));
        Sentences.holds("NONE: another n.", () -> anotherN("cheap", (x, n) -> x.cheap(n)));
    }

    private static void staysSoonest() {
        Sentences.underPromise(28);
        Sentences.holds("The most WEEKS for which one that is a GUEST can stay one (from now on)", SearchEdges::stayingFromNowOn);
        Sentences.holds("the first; NONE first, if nobody will do", SearchEdges::noneFirst);
        Sentences.holds("-3", () -> tooMany("stays(0)", x -> x.stays(0)));
        Sentences.holds("-2: it is no GUEST", SearchEdges::staysOfNoGuest);
        Sentences.holds("NONE: none such.", () -> noneSuch("stays", (x, p) -> x.stays(p)));
        Sentences.underPromise(29);
        Sentences.holds("(0: it is)", SearchEdges::soonestIs0);
        Sentences.holds("-2: never", SearchEdges::soonestNever);
        Sentences.holds("-3", () -> tooMany("soonest(0)", x -> x.soonest(0)));
        Sentences.holds("NONE: none such.", () -> noneSuch("soonest", (x, p) -> x.soonest(p)));
    }

    private static void withoutOne() {
        Sentences.underPromise(30);
        Sentences.holds("By how much last() would be less, if one was HIDDEN", SearchEdges::worthOfEach);
        Sentences.holds("-2: last() is, as it is", SearchEdges::worthWithoutLast);
        Sentences.holds("-3", () -> tooMany("worth(1)", x -> x.worth(1)));
        Sentences.holds("NONE: others.", SearchEdges::worthOfOthers);
        Sentences.underPromise(31);
        Sentences.holds("each without whom alone last() would be less", SearchEdges::withoutWhomAlone);
        Sentences.holds("-2: last() is, as it is", SearchEdges::neededWithoutLast);
        Sentences.holds("-3.", () -> tooMany("needed", x -> x.needed()));
        Sentences.underPromise(32);
        Sentences.holds("STRANGERS (bits) who are GUESTS in no STATE.", SearchEdges::neverInAnyState);
        Sentences.holds("-3.", () -> tooMany("never", x -> x.never()));
    }

    private static void tooMany(String name, Call call) {
        EachBringsAnother x = Feasts.just3001States();
        x.goes(0);
        Sentences.is(name + " of 3001", call.on(x), -3);
        Sentences.rowIs(x, 1, 0);
        x.law(1, 1);
        Sentences.is(name + " of few", call.on(x) >= -2, true);
        x.law(1, 3);
        Sentences.is(name + " of 3001 again", call.on(x), -3);
        EachBringsAnother y = Feasts.just3000States();
        Sentences.is(name + " of 3000", call.on(y) >= -2, true);
    }

    private static void anotherN(String name, AtWeek call) {
        EachBringsAnother x = Feasts.feast(Feasts.FIVE);
        x.goes(0);
        for (int n : new int[] {-1, 61, -60, 64, MIN, MAX}) {
            Sentences.is(name + "(" + n + ")", call.on(x, n), -1);
        }
        Sentences.rowIs(x, 1, 0);
        for (int n = 0; n <= 60; n++) {
            Sentences.is(name + "(" + n + ") is not NONE", call.on(x, n) != -1, true);
        }
    }

    private static void noneSuch(String name, AtWeek call) {
        EachBringsAnother x = Feasts.feast(Feasts.FIVE);
        x.goes(0);
        for (int p : new int[] {-1, 5, 10, 31, 32, MIN, MAX}) {
            Sentences.is(name + "(" + p + ")", call.on(x, p), -1);
        }
        Sentences.rowIs(x, 1, 0);
        Sentences.is(name + "(4) is not NONE", call.on(x, 4) != -1, true);
        Sentences.is(name + " of nobody", call.on(new EachBringsAnother(), 0), -1);
        EachBringsAnother ten = Feasts.feast(Feasts.CHAIN);
        Sentences.is(name + "(9) of ten is not NONE", call.on(ten, 9) != -1, true);
        Sentences.is(name + "(10) of ten", call.on(ten, 10), -1);
    }

    private static void howManyStates() {
        Sentences.is("nobody", new EachBringsAnother().states(), 1);
        Sentences.is("no GUEST", Feasts.feast("0;0a").states(), 1);
        for (int grace = 1; grace <= 3; grace++) {
            Sentences.is("one GUEST", Feasts.feast("0!", grace, 10).states(), grace + 1);
            Sentences.is("ten GUESTS", Feasts.feast("0!;0!;0!;0!;0!;0!;0!;0!;0!;0!", grace, 10).states(), grace + 1);
        }
        Sentences.is("brought or not", Feasts.feast("0!;0a").states(), 4);
        Sentences.is("no SEAT", Feasts.feast("0!;0a", 1, 1).states(), 2);
        Sentences.is("HIDDEN", Feasts.feast("0!;0a?").states(), 2);
        Sentences.is("not KNOWN", Feasts.feast("0!;0").states(), 2);
    }

    private static void nobodyAndMost() {
        EachBringsAnother x = new EachBringsAnother();
        x.states();
        Sentences.rowIs(x, 1, 0);
        EachBringsAnother one = Feasts.feast("0!");
        one.states();
        Sentences.rowIs(one, 1, 1);
        EachBringsAnother two = Feasts.feast("0!;0a");
        two.states();
        Sentences.rowIs(two, 2, 2);
        EachBringsAnother ten = Feasts.feast("0!;0!;0!;0!;0!;0a;0b;0c;0d;0e");
        ten.states();
        Sentences.is("the most GUESTS of any", ten.row(1), 10);
        ten.law(1, 9);
        ten.states();
        Sentences.is("the most GUESTS of any, nine SEATS", ten.row(1), 8);
        EachBringsAnother more = Feasts.feast("0!;0!;0!;0a", 1, 1);
        more.states();
        Sentences.rowIs(more, 1, 3);
    }

    private static void mostFrom0To60() {
        EachBringsAnother x = Feasts.feast("0!;0!", 3, 10);
        int[] most = {2, 2, 2, 0, 0};
        for (int n = 0; n < most.length; n++) {
            Sentences.is("most(" + n + ")", x.most(n), most[n]);
        }
        Sentences.is("most(59)", x.most(59), 0);
        Sentences.is("most(60)", x.most(60), 0);
        EachBringsAnother long29 = Feasts.feast(Feasts.CHAIN, 3, 2);
        Sentences.is("most(29)", long29.most(29), 2);
        Sentences.is("most(30)", long29.most(30), 0);
        EachBringsAnother gone = Feasts.feast("0!;0a", 3, 10);
        Feasts.pass(gone, 1);
        Sentences.is("from now on", gone.most(1), 2);
        Sentences.is("from now on", gone.most(4), 2);
        Sentences.is("from now on", gone.most(5), 0);
    }

    /** Of a, who KNOWS b and c: a OUT, with one or with two of them or alone, is still a STATE in all later WEEKS. */
    private static void statesJustThen() {
        EachBringsAnother x = Feasts.feast("0!;0a;0a");
        int[] most = {1, 2, 2, 0, 0};
        int[] states = {1, 3, 5, 4, 4};
        for (int n = 0; n < most.length; n++) {
            Sentences.is("most(" + n + ")", x.most(n), most[n]);
            Sentences.rowIs(x, states[n]);
        }
        x.most(60);
        Sentences.rowIs(x, 4);
        EachBringsAnother full = Feasts.feast("0!;0!;0!;0!;0!;0abcde;0abcde;0abcde;0abcde;0abcde");
        Sentences.is("all may come", full.most(1), 10);
        Sentences.rowIs(full, 252);
        EachBringsAnother nobody = new EachBringsAnother();
        for (int n : new int[] {0, 1, 60}) {
            Sentences.is("of nobody", nobody.most(n), 0);
            Sentences.rowIs(nobody, 1);
        }
    }

    private static void reachFrom0To60() {
        EachBringsAnother x = Feasts.feast(Feasts.FIVE);
        int[] reach = {0b00001, 0b00111, 0b01111, 0b11110, 0b11110, 0};
        for (int n = 0; n < reach.length; n++) {
            Sentences.is("reach(" + n + ")", x.reach(n), reach[n]);
        }
        Sentences.is("reach(60)", x.reach(60), 0);
        EachBringsAnother long29 = Feasts.feast(Feasts.CHAIN, 3, 2);
        Sentences.is("reach(29)", long29.reach(29), 0b1100000000);
        Sentences.is("reach(30)", long29.reach(30), 0);
    }

    private static void inEachState() {
        EachBringsAnother x = Feasts.feast(Feasts.FIVE);
        int[] each = {0b00001, 0b00001, 0, 0b01000, 0b01000, 0};
        for (int n = 0; n < each.length; n++) {
            x.reach(n);
            Sentences.rowIs(x, each[n]);
        }
        EachBringsAnother nobody = Feasts.feast("0;0a");
        Sentences.is("nobody", nobody.reach(0), 0);
        Sentences.rowIs(nobody, 0);
        EachBringsAnother none = new EachBringsAnother();
        Sentences.is("nobody at all", none.reach(60), 0);
        Sentences.rowIs(none, 0);
    }

    private static void fewestFrom0To60() {
        EachBringsAnother x = Feasts.feast("0!;0!;0!;0a", 2, 10);
        int[] fewest = {3, 3, 2, 2, -2};
        for (int n = 0; n < fewest.length; n++) {
            Sentences.is("fewest(" + n + ")", x.fewest(n), fewest[n]);
        }
        Sentences.is("fewest(60)", x.fewest(60), -2);
        EachBringsAnother long29 = Feasts.feast(Feasts.CHAIN, 3, 2);
        Sentences.is("fewest(29)", long29.fewest(29), 2);
        Sentences.is("fewest(30)", long29.fewest(30), -2);
    }

    private static void nobodyCanBe() {
        EachBringsAnother x = Feasts.feast("0!");
        Sentences.is("somebody is", x.fewest(0), 1);
        Sentences.is("nobody can be", x.fewest(1), -2);
        Sentences.is("nobody is", Feasts.feast("0;0a").fewest(0), -2);
        Sentences.is("nobody at all", new EachBringsAnother().fewest(0), -2);
    }

    private static void asManyAsEver() {
        EachBringsAnother now = Feasts.feast("0!;0!;0!;0a", 1, 10);
        Sentences.is("just now", now.crowd(), 0);
        Sentences.rowIs(now, 3, 0);
        EachBringsAnother nobody = Feasts.feast("0;0a");
        Sentences.is("none ever", nobody.crowd(), 0);
        Sentences.rowIs(nobody, 0, 0);
        EachBringsAnother all = Feasts.feast("0!;1a;1ab;1abc;1abcd", 3, 10);
        Sentences.is("1, 2, 4, then all", all.crowd(), 3);
        Sentences.rowIs(all, 5, 4);
        all.law(1, 4);
        Sentences.is("four SEATS", all.crowd(), 2);
        Sentences.rowIs(all, 4, 3);
        all.law(1, 1);
        Sentences.is("one SEAT", all.crowd(), 0);
        Sentences.rowIs(all, 1, 0);
    }

    private static void leastPaidByThen() {
        EachBringsAnother x = Feasts.feast("0!;5a;3a");
        Sentences.is("crowd", x.crowd(), 1);
        Sentences.rowIs(x, 2, 3);
        EachBringsAnother y = Feasts.feast("0!;0!;9b;0a;0d", 3, 4);
        Sentences.is("it would cost less later", y.crowd(), 1);
        Sentences.rowIs(y, 4, 9);
        Feasts.week(x, "a>b");
        Sentences.is("what was paid earlier does not count", x.crowd(), 0);
        Sentences.rowIs(x, 2, 0);
    }

    private static void bothFrom0To60() {
        EachBringsAnother x = Feasts.feast("0!;0!;3a;4b;5a", 2, 10);
        Sentences.is("both(0, 1, 0)", x.both(0, 1, 0), 0);
        Sentences.is("both(0, 1, 1)", x.both(0, 1, 1), 0);
        Sentences.is("both(0, 1, 2)", x.both(0, 1, 2), 7);
        Sentences.is("both(2, 4, 2)", x.both(2, 4, 2), 8);
        Sentences.is("both(4, 2, 2)", x.both(4, 2, 2), 8);
        Sentences.is("both(2, 4, 1)", x.both(2, 4, 1), -2);
        Sentences.is("both(0, 1, 60)", x.both(0, 1, 60), -2);
        EachBringsAnother long29 = Feasts.feast(Feasts.CHAIN, 3, 2);
        long29.sheet(2, 10, 1, 0);
        Sentences.is("both(8, 9, 29)", long29.both(8, 9, 29), 9);
        Sentences.is("both(8, 9, 30)", long29.both(8, 9, 30), -2);
    }

    private static void theyCantBe() {
        EachBringsAnother x = Feasts.feast("0!;0!;0a;0?");
        Sentences.is("one is none yet", x.both(0, 2, 0), -2);
        Sentences.is("a is OUT unless it brings, b can't", x.both(0, 1, 1), -2);
        Sentences.is("both can", x.both(0, 2, 1), 0);
        Sentences.is("too late", x.both(0, 2, 2), -2);
        Sentences.is("one who is HIDDEN", x.both(0, 3, 1), -2);
        Sentences.is("nobody is a GUEST", Feasts.feast("0;0a").both(0, 1, 0), -2);
    }

    private static void bothOfOthers() {
        EachBringsAnother x = Feasts.feast("0!;0!");
        int[][] others = {{0, 0, 0}, {1, 1, 0}, {0, 2, 0}, {2, 0, 0}, {2, 2, 0}, {-1, 0, 0}, {0, -1, 0}, {0, 1, -1}, {0, 1, 61},
            {0, MAX, 0}, {MIN, 1, 0}, {0, 1, MAX}, {0, 1, MIN}, {0, 32, 0}};
        for (int[] o : others) {
            Sentences.is("both(" + o[0] + ", " + o[1] + ", " + o[2] + ")", x.both(o[0], o[1], o[2]), -1);
        }
        Sentences.is("both(0, 1, 0)", x.both(0, 1, 0), 0);
        Sentences.is("both(1, 0, 60)", x.both(1, 0, 60), -2);
    }

    private static void justNow() {
        EachBringsAnother x = Feasts.feast("0!;0!;0a?");
        Sentences.is("just now", x.last(), 0);
        Sentences.rowIs(x, 2);
        x.hide(2, false);
        Sentences.is("one WEEK", x.last(), 1);
        x.law(1, 1);
        Sentences.is("no SEAT", x.last(), 0);
        x.law(0, 2);
        Sentences.is("a WEEK late", x.last(), 1);
        Feasts.pass(x, 1);
        Sentences.is("just now", x.last(), 0);
        EachBringsAnother most = Feasts.feast(Feasts.CHAIN, 3, 10);
        Sentences.is("the most of any LAND", most.last(), 29);
        EachBringsAnother ten = Feasts.feast("0!;0!;0!;0!;0!;0!;0!;0!;0!;0!");
        Sentences.is("ten GUESTS", ten.last(), 0);
        Sentences.rowIs(ten, 10);
    }

    private static void fewestThen() {
        EachBringsAnother x = Feasts.feast("0!;0!;0a;0b");
        Sentences.is("last", x.last(), 1);
        Sentences.rowIs(x, 2);
        EachBringsAnother one = Feasts.feast("0!", 2, 10);
        Sentences.is("last", one.last(), 1);
        Sentences.rowIs(one, 1);
        EachBringsAnother late = Feasts.feast("0!;0!;0!;0c", 2, 10);
        Sentences.is("last", late.last(), 3);
        Sentences.rowIs(late, 2);
    }

    private static void lastOfNobody() {
        EachBringsAnother x = Feasts.feast("0!;0a");
        x.last();
        Feasts.pass(x, 1);
        Sentences.is("all are OUT", x.last(), -2);
        Sentences.rowIs(x, 2);
        Sentences.is("STRANGERS", Feasts.feast("0;0a").last(), -2);
        Sentences.is("nobody", new EachBringsAnother().last(), -2);
    }

    private static void firstWeeks() {
        EachBringsAnother wait = Feasts.feast("0!", 2, 10);
        Sentences.is("none", wait.begin(), 0);
        Sentences.rowIs(wait);
        EachBringsAnother one = Feasts.feast("0!;0a;0a;0c");
        Sentences.is("b, as c is left for a then", one.begin(), 1);
        Sentences.rowIs(one, 1);
        EachBringsAnother two = Feasts.feast("0!;0!;0a;0b;0d");
        Sentences.is("2, 13 is less than 13", two.begin(), 2);
        Sentences.rowIs(two, 2, 13);
        EachBringsAnother five = Feasts.feast("0!;0!;0!;0!;0!;0a;0b;0c;0d;0e");
        Sentences.is("5 is less than 5, 16", five.begin(), 1);
        Sentences.rowIs(five, 5);
    }

    private static void leastFirstWeek() {
        EachBringsAnother x = Feasts.feast("0!;0!;0a;0b;0c;0d");
        Sentences.is("2 is less than 2, 13 and 13", x.begin(), 1);
        Sentences.rowIs(x, 2);
        x.hide(4, true);
        Sentences.is("2, 13 is less than 13", x.begin(), 2);
        Sentences.rowIs(x, 2, 13);
        x.law(1, 3);
        Sentences.is("no SEATS for both", x.begin(), 1);
        Sentences.rowIs(x, 13);
        EachBringsAnother none = Feasts.feast("0!;0a", 2, 10);
        Sentences.is("none is less than 1", none.begin(), 0);
        Sentences.rowIs(none);
        Feasts.pass(none, 1);
        Sentences.is("1 is all that is left", none.begin(), 1);
        Sentences.rowIs(none, 1);
    }

    private static void beginOfNobody() {
        EachBringsAnother x = Feasts.feast("0!;0a");
        x.begin();
        Feasts.pass(x, 1);
        Sentences.is("all are OUT", x.begin(), -2);
        Sentences.rowIs(x, 1);
        Sentences.is("STRANGERS", Feasts.feast("0;0a").begin(), -2);
        Sentences.is("nobody", new EachBringsAnother().begin(), -2);
    }

    private static void beginOfLast0() {
        EachBringsAnother x = Feasts.feast("0!;0a?");
        x.goes(0);
        Sentences.is("last() is 0", x.begin(), -2);
        Sentences.rowIs(x, 1, 0);
        x.hide(1, false);
        Sentences.is("last() is 1", x.begin(), 1);
        Sentences.rowIs(x, 1);
    }

    private static void cheapFrom0To60() {
        EachBringsAnother x = Feasts.feast("9!;4a;3a", 2, 10);
        int[] cheap = {0, 0, 3, 3, 7, 7, -2};
        for (int n = 0; n < cheap.length; n++) {
            Sentences.is("cheap(" + n + ")", x.cheap(n), cheap[n]);
        }
        Sentences.is("cheap(60)", x.cheap(60), -2);
        Feasts.pass(x, 1);
        x.cheap(1);
        Sentences.rowIs(x, 2);
        Sentences.is("cheap(0)", x.cheap(0), 0);
        Sentences.rowIs(x);
        EachBringsAnother long29 = Feasts.feast(Feasts.CHAIN, 3, 2);
        long29.sheet(2, 10, 9, 0);
        Sentences.is("cheap(29)", long29.cheap(29), 81);
        Sentences.is("cheap(30)", long29.cheap(30), -2);
        Sentences.is("cheap(26)", long29.cheap(26), 72);
    }

    private static void leastCheapWeek() {
        EachBringsAnother x = Feasts.feast("0!;0!;0a;0b;0c;0d");
        Sentences.is("cheap(2)", x.cheap(2), 0);
        Sentences.rowIs(x, 2);
        x.hide(4, true);
        Sentences.is("2, 13 is less than 13", x.cheap(2), 0);
        Sentences.rowIs(x, 2, 13);
        x.sheet(2, 3, 0, 1);
        Sentences.is("but it costs more", x.cheap(2), 0);
        Sentences.rowIs(x, 13);
        EachBringsAnother y = Feasts.feast("0!;0a;0a", 2, 10);
        Sentences.is("none is less than any", y.cheap(1), 0);
        Sentences.rowIs(y);
        y.law(0, 1);
        Sentences.is("the first", y.cheap(1), 0);
        Sentences.rowIs(y, 1);
        y.sheet(2, 2, 0, 1);
        Sentences.is("the cheaper one", y.cheap(1), 0);
        Sentences.rowIs(y, 2);
        Sentences.is("both, then", y.cheap(2), 1);
        Sentences.rowIs(y, 1);
    }

    private static void itCantBe() {
        EachBringsAnother x = Feasts.feast("0!;0a");
        x.cheap(1);
        Sentences.is("behind WEEK 2", x.cheap(2), -2);
        Sentences.rowIs(x, 1);
        Sentences.is("nobody is a GUEST", Feasts.feast("0;0a").cheap(0), -2);
        Sentences.is("nobody", new EachBringsAnother().cheap(0), -2);
        Sentences.is("behind WEEK 60", x.cheap(60), -2);
    }

    private static void stayingFromNowOn() {
        EachBringsAnother x = Feasts.feast("0!;0a;0a;0a", 3, 10);
        Sentences.is("stays(0)", x.stays(0), 11);
        Feasts.pass(x, 1);
        Sentences.is("LATE 1", x.stays(0), 10);
        Feasts.week(x, "a>b");
        Sentences.is("behind a WEEK", x.stays(0), 8);
        Sentences.is("b", x.stays(1), 2);
        EachBringsAnother y = Feasts.feast("0!;0!;0b");
        Sentences.is("0: just now", y.stays(0), 0);
        Sentences.rowIs(y, -1);
        Sentences.is("1", y.stays(1), 1);
        Sentences.rowIs(y, 2);
        EachBringsAnother each = Feasts.feast("0!;0!;0a;0b");
        Sentences.is("a itself", each.stays(0), 1);
        Sentences.rowIs(each, 2);
        Sentences.is("b itself", each.stays(1), 1);
        Sentences.rowIs(each, 3);
        EachBringsAnother known = Feasts.feast("0!;0!;0b;0ab");
        Sentences.is("with one that a KNOWS", known.stays(0), 1);
        Sentences.rowIs(known, 3);
        EachBringsAnother first = Feasts.feast("0;0a!");
        Sentences.is("with the first", first.stays(1), 1);
        Sentences.rowIs(first, 0);
        EachBringsAnother all = Feasts.feast("0!;0a;0a;0a;0a;0a;0a;0a;0a;0a", 1, 10);
        Sentences.is("nine it KNOWS", all.stays(0), 9);
        Sentences.rowIs(all, 1);
    }

    private static void noneFirst() {
        EachBringsAnother x = Feasts.feast("0!;0a;0a", 2, 10);
        Sentences.is("nobody will do", x.stays(0), 5);
        Sentences.rowIs(x, -1);
        Feasts.pass(x, 1);
        Sentences.is("the first", x.stays(0), 4);
        Sentences.rowIs(x, 1);
        x.hide(1, true);
        Sentences.is("the first that will do", x.stays(0), 2);
        Sentences.rowIs(x, 2);
        x.hide(2, true);
        Sentences.is("it can't stay", x.stays(0), 0);
        Sentences.rowIs(x, -1);
        EachBringsAnother y = Feasts.feast("0!;0!;0ab;0a;0a");
        Sentences.is("b may be OUT", y.stays(0), 3);
        Sentences.rowIs(y, 2);
    }

    private static void staysOfNoGuest() {
        EachBringsAnother x = Feasts.feast("0!;0a;0!;0?");
        Feasts.week(x, "a>b");
        x.goes(0);
        Sentences.is("one who is OUT", x.stays(2), -2);
        Sentences.is("a HIDDEN STRANGER", x.stays(3), -2);
        x.hide(3, false);
        Sentences.is("a STRANGER", x.stays(3), -2);
        Sentences.rowIs(x, 3, 0);
        Sentences.is("one who was brought", x.stays(1), 0);
    }

    private static void soonestIs0() {
        EachBringsAnother x = Feasts.feast("0!?;0a;0b", 1, 10);
        Sentences.is("it is", x.soonest(0), 0);
        Sentences.is("not yet", x.soonest(1), 1);
        Sentences.is("not yet", x.soonest(2), 2);
        Feasts.week(x, "a>b");
        Sentences.is("it is", x.soonest(1), 0);
        EachBringsAnother chain = Feasts.feast(Feasts.CHAIN);
        Sentences.is("the tenth of a chain", chain.soonest(9), 9);
    }

    private static void soonestNever() {
        EachBringsAnother x = Feasts.feast("0!;0!;0a;0c?;0d;0");
        Sentences.is("HIDDEN", x.soonest(3), -2);
        Sentences.is("behind a HIDDEN one", x.soonest(4), -2);
        Sentences.is("KNOWN by nobody", x.soonest(5), -2);
        Feasts.week(x, "a>c");
        Sentences.is("OUT", x.soonest(1), -2);
        x.law(1, 1);
        x.hide(3, false);
        Sentences.is("no SEAT", x.soonest(3), -2);
        Sentences.is("nobody is a GUEST", Feasts.feast("0;0a").soonest(0), -2);
    }

    private static void worthOfEach() {
        EachBringsAnother x = Feasts.feast("0!;0a;0a;0c;0");
        int[] worth = {-1, 1, 2, 1, 0};
        Sentences.is("last", x.last(), 3);
        for (int p = 0; p < worth.length; p++) {
            Sentences.is("worth(" + p + ")", x.worth(p), worth[p]);
        }
        Sentences.is("nobody is HIDDEN by that", x.count(9), 0);
        Sentences.is("last", x.last(), 3);
        EachBringsAnother all = Feasts.feast(Feasts.CHAIN, 3, 2);
        Sentences.is("all but GRACE", all.worth(1), 27);
        Sentences.is("the tenth", all.worth(9), 3);
    }

    private static void worthWithoutLast() {
        EachBringsAnother x = Feasts.feast("0!;0");
        Sentences.is("last() is 0", x.worth(1), 0);
        Feasts.pass(x, 1);
        Sentences.is("all are OUT", x.worth(1), -2);
        Sentences.is("STRANGERS", Feasts.feast("0").worth(0), -2);
    }

    private static void worthOfOthers() {
        EachBringsAnother x = Feasts.feast("0!;0a;0!;0?");
        Feasts.week(x, "a>b");
        Sentences.is("a GUEST", x.worth(0), -1);
        Sentences.is("a GUEST who was brought", x.worth(1), -1);
        Sentences.is("one who is OUT", x.worth(2), -1);
        Sentences.is("a HIDDEN one", x.worth(3), -1);
        for (int p : new int[] {-1, 4, 10, 31, 32, MIN, MAX}) {
            Sentences.is("worth(" + p + ")", x.worth(p), -1);
        }
        Feasts.pass(x, 1);
        Sentences.is("ahead of -2", x.worth(3), -1);
        x.hide(3, false);
        Sentences.is("-2 then", x.worth(3), -2);
    }

    private static void withoutWhomAlone() {
        EachBringsAnother x = Feasts.feast("0!;0a;0a;0c;0");
        Sentences.is("needed", x.needed(), 0b01110);
        x.law(1, 1);
        Sentences.is("last() is 0", x.needed(), 0);
        EachBringsAnother y = Feasts.feast("0!;0!;0a;0b");
        Sentences.is("c or d will do", y.needed(), 0);
        y.hide(2, true);
        Sentences.is("d alone", y.needed(), 0b1000);
        Sentences.is("without STRANGERS", Feasts.feast("0!").needed(), 0);
        Sentences.is("all nine", Feasts.feast(Feasts.CHAIN, 3, 2).needed(), 1022);
        Sentences.is("the first", Feasts.feast("0;0a!").needed(), 1);
    }

    private static void neededWithoutLast() {
        EachBringsAnother x = Feasts.feast("0!;0a");
        Feasts.pass(x, 1);
        Sentences.is("all are OUT", x.needed(), -2);
        Sentences.is("STRANGERS", Feasts.feast("0;0a").needed(), -2);
        Sentences.is("nobody", new EachBringsAnother().needed(), -2);
    }

    private static void neverInAnyState() {
        EachBringsAnother x = Feasts.feast("0!;0a;0b?;0c;0!;0");
        Sentences.is("never", x.never(), 0b101100);
        Feasts.week(x, "a>b");
        Sentences.is("one who is OUT is no STRANGER", x.never(), 0b101100);
        x.hide(2, false);
        Sentences.is("never", x.never(), 0b100000);
        x.law(1, 1);
        Sentences.is("no SEAT", x.never(), 0b101100);
        Sentences.is("nobody", new EachBringsAnother().never(), 0);
        Sentences.is("nobody is a GUEST", Feasts.feast("0;0a").never(), 3);
        Sentences.is("all can", Feasts.feast(Feasts.CHAIN).never(), 0);
    }
}
