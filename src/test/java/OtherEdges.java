/** Edges that promises 33 to 43 name. */
final class OtherEdges {
    private static final int MIN = Integer.MIN_VALUE;
    private static final int MAX = Integer.MAX_VALUE;

    private interface OfOne {
        int on(EachBringsAnother x, int person);
    }

    private OtherEdges() {
    }

    static void all() {
        bounds();
        whoLedWhom();
        kept();
    }

    private static void bounds() {
        Sentences.underPromise(33);
        Sentences.holds("No more WEEKS than this can go by with somebody still a GUEST", OtherEdges::noMoreWeeksThanThis);
        Sentences.holds("STRANGERS that hang together with some GUEST by those that are not HIDDEN, all along", OtherEdges::hangTogether);
        Sentences.holds("what the least LATE of GUESTS leaves of GRACE (1 at least), less 1", OtherEdges::whatLateLeaves);
        Sentences.holds("-2: nobody is a GUEST.", OtherEdges::boundOfNobody);
        Sentences.underPromise(34);
        Sentences.holds("(by STRANGERS that are not HIDDEN, itself too)", OtherEdges::notHiddenItselfToo);
        Sentences.holds("(0: it is one, the ROW is empty)", OtherEdges::farOfAGuest);
        Sentences.holds("the way from that GUEST on, without both ends", OtherEdges::withoutBothEnds);
        Sentences.holds("of as short the least row", OtherEdges::leastWay);
        Sentences.holds("-2: none leads there", OtherEdges::noneLeadsThere);
        Sentences.holds("NONE: none such.", () -> noneSuch("far", (x, p) -> x.far(p)));
    }

    private static void whoLedWhom() {
        Sentences.underPromise(35);
        Sentences.holds("Those by whom one came, the first of all first: how many; the ROW: they.", OtherEdges::byWhomOneCame);
        Sentences.holds("NONE: none such.", () -> noneSuch("line", (x, p) -> x.line(p)));
        Sentences.underPromise(36);
        Sentences.holds("how many it BROUGHT itself, how deep it goes", OtherEdges::howManyHowDeep);
        Sentences.holds("NONE: none such.", () -> noneSuch("led", (x, p) -> x.led(p)));
        Sentences.underPromise(37);
        Sentences.holds("Who were GUESTS behind a WEEK (bits).", OtherEdges::wasBehindAWeek);
        Sentences.holds("NONE: a WEEK that was not yet.", OtherEdges::wasNotYet);
        Sentences.underPromise(38);
        Sentences.holds("(itself may be one of both)", OtherEdges::oneOfBoth);
        Sentences.holds("-2: none", OtherEdges::noneInCommon);
        Sentences.holds("NONE: none such, like ones.", OtherEdges::commonOfNoneSuch);
        Sentences.underPromise(39);
        Sentences.holds("of equal ones the first: it", OtherEdges::firstOfEqualFathers);
        Sentences.holds("-2: nobody led anybody.", OtherEdges::nobodyLedAnybody);
    }

    private static void kept() {
        Sentences.underPromise(40);
        Sentences.holds("are kept under a number 0 .. 1: true.", OtherEdges::keptUnder0And1);
        Sentences.holds("Refused: others.", OtherEdges::keptUnderOthers);
        Sentences.underPromise(41);
        Sentences.holds("They are as they were kept under a number.", OtherEdges::asTheyWereKept);
        Sentences.holds("Refused: nothing kept", OtherEdges::nothingKept);
        Sentences.holds("PEOPLE came since.", OtherEdges::peopleCameSince);
        Sentences.underPromise(42);
        Sentences.holds("6: WEEKS that can be undone, 7: numbers of the ROW, 8: signs of THE TEXT", OtherEdges::countsOfAll);
        Sentences.holds("NONE for another what.", OtherEdges::countOfAnother);
        Sentences.underPromise(43);
        Sentences.holds("Number i of the ROW.", OtherEdges::firstAndLastNumber);
        Sentences.holds("NoSuchElementException: none such.", OtherEdges::noSuchNumber);
    }

    private static void noneSuch(String name, OfOne call) {
        EachBringsAnother x = Feasts.feast("0!;0a;0b");
        Feasts.week(x, "a>b");
        x.goes(0);
        for (int p : new int[] {-1, 3, 10, 31, 32, MIN, MAX}) {
            Sentences.is(name + "(" + p + ")", call.on(x, p), -1);
        }
        Sentences.rowIs(x, 3, 0);
        Sentences.is(name + "(2) is not NONE", call.on(x, 2) >= 0, true);
        Sentences.is(name + " of nobody", call.on(new EachBringsAnother(), 0), -1);
        EachBringsAnother ten = Feasts.feast(Feasts.CHAIN);
        Sentences.is(name + "(9) of ten is not NONE", call.on(ten, 9) >= 0, true);
        Sentences.is(name + "(10) of ten", call.on(ten, 10), -1);
    }

    private static void noMoreWeeksThanThis() {
        for (int grace = 1; grace <= 3; grace++) {
            EachBringsAnother x = Feasts.feast(Feasts.CHAIN, grace, 2);
            Sentences.is("bound", x.bound(), 10 * grace - 1);
            Sentences.is("last", x.last(), 10 * grace - 1);
            EachBringsAnother alone = Feasts.feast("0!;0;0?", grace, 10);
            Sentences.is("bound without STRANGERS", alone.bound(), grace - 1);
            Sentences.is("last without STRANGERS", alone.last(), grace - 1);
        }
        EachBringsAnother many = Feasts.feast(Feasts.CROWD, 3, 10);
        Sentences.is("no search", many.bound(), 23);
    }

    private static void hangTogether() {
        EachBringsAnother x = Feasts.feast("0!;0a;0b;0c?;0d;0!;0f;0");
        Sentences.is("b, c and g", x.bound(), 3);
        x.hide(3, false);
        Sentences.is("d and e, too", x.bound(), 5);
        x.hide(1, true);
        Sentences.is("g alone", x.bound(), 1);
        x.meet(4, 5, true);
        Sentences.is("e, d, c from f on", x.bound(), 4);
        x.hide(5, true);
        Sentences.is("by a HIDDEN GUEST, too", x.bound(), 4);
        x.hide(6, true);
        Sentences.is("e, d, c", x.bound(), 3);
        EachBringsAnother out = Feasts.feast("0!;0!;0b;0a", 1, 10);
        Feasts.week(out, "a>d");
        Sentences.is("not by one who is OUT", out.bound(), 0);
    }

    private static void whatLateLeaves() {
        EachBringsAnother x = Feasts.feast("0!;0a", 3, 10);
        int[] bound = {5, 4, 3};
        for (int late = 0; late <= 2; late++) {
            Sentences.is("LATE " + late, x.bound(), bound[late]);
            Feasts.pass(x, late < 2 ? 1 : 0);
        }
        x.law(0, 2);
        Sentences.is("LATE 2, GRACE 2: 1 at least", x.bound(), 2);
        x.law(0, 1);
        Sentences.is("LATE 2, GRACE 1: 1 at least", x.bound(), 1);
        EachBringsAnother least = Feasts.feast("0!;0!;0a;0", 3, 10);
        Feasts.pass(least, 1);
        Feasts.week(least, "a>c");
        Sentences.is("LATE 0 and 2", least.bound(), 2);
        Feasts.land(least, "0!");
        Feasts.pass(least, 1);
        Sentences.is("LATE 1 of three", least.bound(), 1);
    }

    private static void boundOfNobody() {
        EachBringsAnother x = Feasts.feast("0!;0a");
        Sentences.is("somebody", x.bound(), 1);
        Feasts.pass(x, 1);
        Sentences.is("all are OUT", x.bound(), -2);
        Sentences.is("STRANGERS", Feasts.feast("0;0a").bound(), -2);
        Sentences.is("nobody", new EachBringsAnother().bound(), -2);
        Sentences.is("0 is not -2", Feasts.feast("0!").bound(), 0);
    }

    private static void notHiddenItselfToo() {
        EachBringsAnother x = Feasts.feast("0!;0a;0b;0a;0cd");
        Sentences.is("by b", x.far(2), 2);
        Sentences.is("by d", x.far(4), 2);
        x.hide(1, true);
        Sentences.is("by d and e", x.far(2), 3);
        Sentences.rowIs(x, 3, 4);
        Sentences.is("HIDDEN itself", x.far(1), -2);
        x.hide(3, true);
        Sentences.is("no way", x.far(2), -2);
        x.hide(0, true);
        x.hide(1, false);
        Sentences.is("from a HIDDEN GUEST", x.far(2), 2);
        EachBringsAnother out = Feasts.feast("0!;0!;0b;0a");
        Feasts.week(out, "a>d");
        Sentences.is("not by one who is OUT", out.far(2), -2);
    }

    private static void farOfAGuest() {
        EachBringsAnother x = Feasts.feast("0!;0a;0b");
        Sentences.is("two steps", x.far(2), 2);
        Sentences.rowIs(x, 1);
        Sentences.is("it is one", x.far(0), 0);
        Sentences.rowIs(x);
        Feasts.week(x, "a>b");
        x.goes(0);
        Sentences.is("it is one now", x.far(1), 0);
        Sentences.rowIs(x);
    }

    private static void withoutBothEnds() {
        EachBringsAnother x = Feasts.feast(Feasts.CHAIN);
        Sentences.is("one step", x.far(1), 1);
        Sentences.rowIs(x);
        Sentences.is("two steps", x.far(2), 2);
        Sentences.rowIs(x, 1);
        Sentences.is("nine steps", x.far(9), 9);
        Sentences.rowIs(x, 1, 2, 3, 4, 5, 6, 7, 8);
        Feasts.week(x, "a>b");
        Sentences.is("from the nearest GUEST on", x.far(9), 8);
        Sentences.rowIs(x, 2, 3, 4, 5, 6, 7, 8);
        EachBringsAnother back = Feasts.feast("0;0a;0b;0c!");
        Sentences.is("from that GUEST on", back.far(0), 3);
        Sentences.rowIs(back, 2, 1);
    }

    private static void leastWay() {
        EachBringsAnother x = Feasts.feast("0!;0a;0a;0bc;0!;0e;0cf");
        Sentences.is("by b or c", x.far(3), 2);
        Sentences.rowIs(x, 1);
        Sentences.is("by c or f", x.far(6), 2);
        Sentences.rowIs(x, 2);
        x.hide(1, true);
        x.hide(2, true);
        Sentences.is("by f", x.far(6), 2);
        Sentences.rowIs(x, 5);
        EachBringsAnother y = Feasts.feast("0!;0a;0;0a;0bc;0cd;0ef");
        y.meet(1, 2, true);
        Sentences.is("the shorter one, if its row is greater", y.far(5), 2);
        Sentences.rowIs(y, 3);
        Sentences.is("of as short the least", y.far(6), 3);
        Sentences.rowIs(y, 1, 4);
    }

    private static void noneLeadsThere() {
        EachBringsAnother x = Feasts.feast("0!;0;0b;0a?;0d;0!");
        x.goes(0);
        Sentences.is("KNOWN by nobody", x.far(1), -2);
        Sentences.is("KNOWN by such a one", x.far(2), -2);
        Sentences.is("HIDDEN", x.far(3), -2);
        Sentences.is("behind a HIDDEN one", x.far(4), -2);
        Sentences.rowIs(x, 33, 0);
        Feasts.pass(x, 1);
        Sentences.is("OUT", x.far(0), -2);
        Sentences.is("nobody is a GUEST", x.far(1), -2);
    }

    /** a BROUGHT b, b BROUGHT c, and so on, in nine WEEKS. */
    private static EachBringsAnother chain() {
        EachBringsAnother x = Feasts.feast(Feasts.CHAIN);
        for (char one = 'a'; one < 'j'; one++) {
            Feasts.week(x, one + ">" + (char) (one + 1));
        }
        return x;
    }

    private static void byWhomOneCame() {
        EachBringsAnother x = chain();
        Sentences.is("the tenth", x.line(9), 9);
        Sentences.rowIs(x, 0, 1, 2, 3, 4, 5, 6, 7, 8);
        Sentences.is("the second", x.line(1), 1);
        Sentences.rowIs(x, 0);
        Sentences.is("a GUEST told", x.line(0), 0);
        Sentences.rowIs(x);
        x.line(1);
        x.undo();
        Sentences.is("a STRANGER", x.line(9), 0);
        Sentences.rowIs(x);
    }

    private static void howManyHowDeep() {
        EachBringsAnother x = chain();
        Sentences.is("the first", x.led(0), 1022);
        Sentences.rowIs(x, 1, 9);
        Sentences.is("the ninth", x.led(8), 512);
        Sentences.rowIs(x, 1, 1);
        Sentences.is("the tenth", x.led(9), 0);
        Sentences.rowIs(x, 0, 0);
        EachBringsAnother wide = Feasts.feast("0;0;0;0;0;0;0;0;0;0abcdefghi!");
        for (char other = 'a'; other < 'j'; other++) {
            Feasts.week(wide, "j>" + other);
        }
        Sentences.is("nine of one", wide.led(9), 511);
        Sentences.rowIs(wide, 9, 1);
    }

    private static void wasBehindAWeek() {
        EachBringsAnother x = chain();
        Sentences.is("was(0)", x.was(0), 1);
        for (int w = 1; w <= 9; w++) {
            Sentences.is("was(" + w + ")", x.was(w), 3 << w - 1);
        }
        Feasts.pass(x, 51);
        Sentences.is("was(10)", x.was(10), 0);
        Sentences.is("was(60)", x.was(60), 0);
        Sentences.is("nobody", new EachBringsAnother().was(0), 0);
    }

    private static void wasNotYet() {
        EachBringsAnother x = Feasts.feast("0!");
        for (int w : new int[] {1, -1, 60, 61, MAX, MIN}) {
            Sentences.is("was(" + w + ")", x.was(w), -1);
        }
        Feasts.pass(x, 1);
        Sentences.is("was(1)", x.was(1), 0);
        Sentences.is("was(2)", x.was(2), -1);
        x.undo();
        Sentences.is("was(1) that is undone", x.was(1), -1);
        Feasts.pass(x, 60);
        Sentences.is("was(60)", x.was(60), 0);
        Sentences.is("was(61)", x.was(61), -1);
    }

    private static void oneOfBoth() {
        EachBringsAnother x = chain();
        Sentences.is("the first and the last", x.common(0, 9), 0);
        Sentences.is("the last and the first", x.common(9, 0), 0);
        Sentences.is("two at the end", x.common(8, 9), 8);
        EachBringsAnother y = Feasts.feast("0!;0a;0a;0b;0c", 2, 10);
        Feasts.week(y, "a>b");
        Feasts.week(y, "a>c;b>d");
        Feasts.week(y, "c>e");
        Sentences.is("neither of both", y.common(3, 4), 0);
        Sentences.is("the last one", y.common(1, 3), 1);
        Sentences.is("the last one", y.common(3, 1), 1);
    }

    private static void noneInCommon() {
        EachBringsAnother x = Feasts.feast("0!;0!;0a;0b;0");
        Feasts.week(x, "a>c;b>d");
        Sentences.is("two GUESTS told", x.common(0, 1), -2);
        Sentences.is("led by unlike ones", x.common(2, 3), -2);
        Sentences.is("led by another one", x.common(0, 3), -2);
        Sentences.is("a STRANGER", x.common(4, 2), -2);
        Sentences.is("one in common", x.common(0, 2), 0);
    }

    private static void commonOfNoneSuch() {
        EachBringsAnother x = Feasts.feast("0!;0a");
        Feasts.week(x, "a>b");
        int[][] none = {{0, 0}, {1, 1}, {0, 2}, {2, 0}, {2, 2}, {-1, 0}, {0, -1}, {-1, -1}, {0, 10}, {32, 0}, {MIN, 0}, {0, MAX}};
        for (int[] n : none) {
            Sentences.is("common(" + n[0] + ", " + n[1] + ")", x.common(n[0], n[1]), -1);
        }
        Sentences.is("common(0, 1)", x.common(0, 1), 0);
    }

    private static void firstOfEqualFathers() {
        EachBringsAnother x = Feasts.feast("0;0!;0!;0b;0c;0e", 3, 10);
        Feasts.week(x, "c>e");
        Sentences.is("one led one", x.father(), 2);
        Sentences.rowIs(x, 1);
        Feasts.week(x, "b>d");
        Sentences.is("of equal ones the first", x.father(), 1);
        Sentences.rowIs(x, 1);
        Feasts.week(x, "e>f");
        Sentences.is("one led two", x.father(), 2);
        Sentences.rowIs(x, 2);
        EachBringsAnother y = chain();
        Sentences.is("one led nine", y.father(), 0);
        Sentences.rowIs(y, 9);
    }

    private static void nobodyLedAnybody() {
        EachBringsAnother x = Feasts.feast("0!;0a");
        x.goes(0);
        Sentences.is("nobody yet", x.father(), -2);
        Sentences.rowIs(x, 1, 0);
        Feasts.week(x, "a>b");
        Sentences.is("somebody", x.father(), 0);
        x.undo();
        Sentences.is("undone", x.father(), -2);
        Sentences.is("nobody at all", new EachBringsAnother().father(), -2);
    }

    private static void keptUnder0And1() {
        EachBringsAnother x = Feasts.feast("1!;2a;3b");
        Sentences.is("keep(0)", x.keep(0), true);
        String first = Feasts.picture(x);
        Feasts.week(x, "a>b");
        Sentences.is("keep(1)", x.keep(1), true);
        x.again(0);
        Sentences.is("under 0", Feasts.picture(x), first);
        x.again(1);
        Sentences.is("under 1", x.count(2), 3);
        Sentences.is("once more under 0", x.keep(0), true);
        Feasts.pass(x, 1);
        x.again(0);
        Sentences.is("under 0 now", x.count(2), 3);
        Sentences.is("of nobody", new EachBringsAnother().keep(0), true);
    }

    private static void keptUnderOthers() {
        EachBringsAnother x = Feasts.feast("1!;2a");
        x.keep(0);
        x.keep(1);
        Feasts.week(x, "a>b");
        for (int i : new int[] {-1, 2, MAX, MIN}) {
            Sentences.is("keep(" + i + ")", x.keep(i), false);
        }
        x.again(0);
        Sentences.is("under 0", x.count(2), 1);
        Feasts.week(x, "a>b");
        x.again(1);
        Sentences.is("under 1", x.count(2), 1);
    }

    private static void asTheyWereKept() {
        EachBringsAnother x = Feasts.feast("1!;2a;3b?;4a;5!", 2, 9);
        Feasts.week(x, "a>b");
        x.again(0);
        x.keep(1);
        x.undo();
        x.keep(0);
        String ahead = Feasts.picture(x);
        x.again(1);
        String behind = Feasts.picture(x);
        Sentences.is("GUESTS", x.count(2), 0b10011);
        Sentences.is("LATE", x.of(4, 4), 1);
        Sentences.is("BROUGHT", x.of(1, 5), 0);
        Sentences.is("paid", x.count(5), 2);
        Sentences.is("WEEKS", x.count(1), 1);
        Feasts.week(x, "a>d");
        x.hide(2, false);
        x.hide(0, true);
        x.law(0, 3);
        x.law(1, 4);
        Feasts.week(x, "b>c");
        x.again(1);
        Sentences.is("all under 1", Feasts.picture(x), behind);
        x.again(0);
        Sentences.is("all under 0", Feasts.picture(x), ahead);
        x.again(1);
        Sentences.is("all under 1, once more", Feasts.picture(x), behind);
        weeksAsTheyWereKept();
    }

    private static void weeksAsTheyWereKept() {
        EachBringsAnother x = Feasts.feast("0!;0a");
        Feasts.week(x, "a>b");
        x.keep(0);
        x.undo();
        Feasts.pass(x, 2);
        Sentences.is("was(1)", x.was(1), 0);
        x.again(0);
        Sentences.is("WEEKS", x.count(1), 1);
        Sentences.is("was(1) as it was kept", x.was(1), 3);
        Sentences.is("was(2)", x.was(2), -1);
        EachBringsAnother sixty = Feasts.feast("0");
        Feasts.pass(sixty, 58);
        sixty.baby(0);
        Feasts.land(sixty, "0!");
        sixty.law(0, 3);
        sixty.keep(0);
        Feasts.pass(sixty, 2);
        sixty.keep(1);
        sixty.again(0);
        sixty.law(0, 1);
        Feasts.pass(sixty, 2);
        Sentences.is("was(59), was(60)", sixty.was(59) + sixty.was(60), 0);
        sixty.again(1);
        Sentences.is("was(59) as it was kept", sixty.was(59), 4);
        Sentences.is("was(60) as it was kept", sixty.was(60), 4);
        Sentences.is("LATE as it was kept", sixty.of(2, 4), 2);
    }

    private static void nothingKept() {
        EachBringsAnother x = Feasts.feast("1!");
        Sentences.is("again(0)", x.again(0), false);
        Sentences.is("again(1)", x.again(1), false);
        x.keep(1);
        Sentences.is("again(0)", x.again(0), false);
        Sentences.is("again(1)", x.again(1), true);
        for (int i : new int[] {-1, 2, MAX, MIN}) {
            Sentences.is("again(" + i + ")", x.again(i), false);
        }
        EachBringsAnother y = Feasts.feast("1!");
        y.keep(0);
        Sentences.is("again(1)", y.again(1), false);
        Sentences.is("again(0)", y.again(0), true);
    }

    private static void peopleCameSince() {
        EachBringsAnother x = Feasts.feast("1!");
        x.keep(0);
        Feasts.land(x, "");
        Feasts.land(x, "x");
        x.baby(2);
        Sentences.is("nobody came since", x.again(0), true);
        x.baby(0);
        Sentences.is("a baby came", x.again(0), false);
        x.keep(1);
        Feasts.land(x, "1");
        Sentences.is("another one came", x.again(1), false);
        Sentences.is("two came", x.again(0), false);
        x.keep(0);
        Sentences.is("nobody came since", x.again(0), true);
        Sentences.is("another one came", x.again(1), false);
        EachBringsAnother y = new EachBringsAnother();
        y.keep(0);
        Sentences.is("nobody came to nobody", y.again(0), true);
        y.baby(0);
        Sentences.is("the first came", y.again(0), false);
    }

    private static void countsOfAll() {
        EachBringsAnother x = Feasts.feast("1!;1!;1!;1!;1!;9a;9b;9c;9d;9e?");
        Sentences.is("PEOPLE", x.count(0), 10);
        Sentences.is("GUESTS", x.count(2), 31);
        Sentences.is("STRANGERS, HIDDEN ones too", x.count(3), 31 << 5);
        Sentences.is("those OUT", x.count(4), 0);
        Sentences.is("HIDDEN ones", x.count(9), 512);
        Feasts.week(x, "a>f;b>g;c>h;d>i");
        Sentences.is("those OUT", x.count(4), 16);
        Sentences.is("paid", x.count(5), 36);
        Feasts.pass(x, 59);
        Sentences.is("those OUT", x.count(4), 511);
        Sentences.is("WEEKS", x.count(1), 60);
        Sentences.is("WEEKS that can be undone", x.count(6), 60);
        Sentences.is("an empty ROW", x.count(7), 0);
        x.states();
        Sentences.is("numbers of the ROW", x.count(7), 2);
        Feasts.tell(x, "7".repeat(80));
        Sentences.is("signs of THE TEXT", x.count(8), 80);
    }

    private static void countOfAnother() {
        EachBringsAnother x = Feasts.feast("1!");
        for (int what : new int[] {-1, 10, MAX, MIN}) {
            Sentences.is("count(" + what + ")", x.count(what), -1);
        }
        for (int what = 0; what <= 9; what++) {
            Sentences.is("count(" + what + ") is not NONE", x.count(what) >= 0, true);
        }
    }

    private static void firstAndLastNumber() {
        EachBringsAnother x = chain();
        x.line(9);
        Sentences.is("row(0)", x.row(0), 0);
        Sentences.is("row(8)", x.row(8), 8);
        x.line(1);
        Sentences.is("row(0)", x.row(0), 0);
        EachBringsAnother y = Feasts.feast("0!", 2, 10);
        y.stays(0);
        Sentences.is("NONE in the ROW", y.row(0), -1);
    }

    private static void noSuchNumber() {
        EachBringsAnother x = chain();
        Sentences.isThrown("row(0) at first", () -> x.row(0));
        x.line(9);
        for (int i : new int[] {9, -1, 10, MAX, MIN}) {
            Sentences.isThrown("row(" + i + ")", () -> x.row(i));
        }
        x.line(1);
        Sentences.isThrown("row(1) of a shorter ROW", () -> x.row(1));
        x.line(0);
        Sentences.isThrown("row(0) of an empty ROW", () -> x.row(0));
        Sentences.isThrown("row(-1) of an empty ROW", () -> x.row(-1));
    }
}
