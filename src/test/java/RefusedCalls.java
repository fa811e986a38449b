/** What the document's Terms say of refused calls, of THE TEXT and of the ROW, for every call. */
final class RefusedCalls {
    private static final int MIN = Integer.MIN_VALUE;
    private static final int MAX = Integer.MAX_VALUE;

    private interface Call {
        long on(EachBringsAnother x);
    }

    private RefusedCalls() {
    }

    static void all() {
        Sentences.under("Terms");
        Sentences.holds("Refused calls answer NONE, or false, and change nothing but THE TEXT", RefusedCalls::nothingChanges);
        Sentences.holds("THE TEXT, which a call that can read it empties, whatever it answers", RefusedCalls::theTextIsEmptied);
        Sentences.holds("NONE is asked ahead of other answers below 0", RefusedCalls::noneIsAskedFirst);
        Sentences.holds("(what a TEXT tells wrongly aside)", RefusedCalls::whatATextTellsWrongly);
        Sentences.holds("ROW: numbers told last by a call that says so.", RefusedCalls::callsThatTellNoRow);
        Sentences.holds("The ROW stays with NONE", RefusedCalls::theRowStaysWithNone);
        Sentences.holds("and with each number below 0 that tells why there is no answer (-2, -3 ..)", RefusedCalls::theRowStaysBelow0);
        Sentences.under("What it is");
        Sentences.holds("An object is used for at most 512 calls after it has been made", RefusedCalls::the512thCall);
    }

    /** Somebody of each kind, a WEEK that can be undone, a ROW, a RULE, a LAW, something kept, a TEXT. */
    private static EachBringsAnother busy() {
        EachBringsAnother x = Feasts.feastBy("p", "1!;2a;3a?;4b;5!;6!;7");
        x.law(1, 7);
        Feasts.week(x, "a>b");
        x.keep(0);
        x.law(0, 2);
        x.hide(6, true);
        x.goes(0);
        Feasts.tell(x, "1;2?");
        return x;
    }

    private static void isRefused(String name, int due, Call call) {
        EachBringsAnother x = busy();
        int signs = x.count(8);
        String before = Feasts.picture(x);
        Sentences.is(name, call.on(x), due);
        Sentences.is("all behind " + name, Feasts.picture(x), before);
        Sentences.is("THE TEXT behind " + name, x.count(8), signs);
    }

    private static void isNone(String name, Call call) {
        isRefused(name, -1, call);
    }

    private static void isFalse(String name, Call call) {
        isRefused(name, 0, call);
    }

    private static int bit(boolean is) {
        return is ? 1 : 0;
    }

    private static void nothingChanges() {
        refusedOfTheLand();
        refusedOfOne();
        refusedOfWeeks();
        refusedOfTwo();
        refusedWhereNothingIs();
    }

    private static void refusedOfTheLand() {
        isFalse("end(5)", x -> bit(x.end(5)));
        isFalse("end(-1)", x -> bit(x.end(-1)));
        int[][] laws = {{0, 0}, {0, 4}, {1, 0}, {1, 11}, {2, 1}, {-1, 1}, {0, -1}, {0, MIN}, {1, MAX}, {MAX, 1}, {MIN, 1}};
        for (int[] law : laws) {
            isNone("law(" + law[0] + ", " + law[1] + ")", x -> x.law(law[0], law[1]));
        }
        for (int bits : new int[] {1 << 7, 1 << 10, -1, MIN, 127 + 128}) {
            isNone("baby(" + bits + ")", x -> x.baby(bits));
        }
        int[][] sheets = {{-1, 1}, {4, 1}, {0, 11}, {1, 11}, {2, MAX}, {3, 11}, {MIN, -1}, {4, 11}};
        for (int[] sheet : sheets) {
            isNone("sheet(" + sheet[0] + ", " + sheet[1] + ", 8, 1)", x -> x.sheet(sheet[0], sheet[1], 8, 1));
        }
        isNone("count(10)", x -> x.count(10));
        isNone("count(-1)", x -> x.count(-1));
        for (int i : new int[] {-1, 2, MIN, MAX}) {
            isFalse("keep(" + i + ")", x -> bit(x.keep(i)));
            isFalse("again(" + i + ")", x -> bit(x.again(i)));
        }
        isFalse("again(1)", x -> bit(x.again(1)));
    }

    private static void refusedOfOne() {
        for (int p : new int[] {-1, 7, 10, 31, 32, 33, MIN, MAX}) {
            isFalse("hide(" + p + ", true)", x -> bit(x.hide(p, true)));
            isFalse("hide(" + p + ", false)", x -> bit(x.hide(p, false)));
            isNone("picks(" + p + ")", x -> x.picks(p));
            isNone("stays(" + p + ")", x -> x.stays(p));
            isNone("soonest(" + p + ")", x -> x.soonest(p));
            isNone("worth(" + p + ")", x -> x.worth(p));
            isNone("far(" + p + ")", x -> x.far(p));
            isNone("line(" + p + ")", x -> x.line(p));
            isNone("led(" + p + ")", x -> x.led(p));
        }
        isNone("picks of a STRANGER", x -> x.picks(3));
        isNone("picks of one who is OUT", x -> x.picks(4));
        isNone("worth of a GUEST", x -> x.worth(0));
        isNone("worth of one who is OUT", x -> x.worth(4));
        isNone("worth of a HIDDEN one", x -> x.worth(2));
    }

    private static void refusedOfWeeks() {
        for (int n : new int[] {-1, 61, MIN, MAX}) {
            isNone("goes(" + n + ")", x -> x.goes(n));
            isNone("most(" + n + ")", x -> x.most(n));
            isNone("reach(" + n + ")", x -> x.reach(n));
            isNone("fewest(" + n + ")", x -> x.fewest(n));
            isNone("cheap(" + n + ")", x -> x.cheap(n));
            isNone("both(0, 1, " + n + ")", x -> x.both(0, 1, n));
            isNone("was(" + n + ")", x -> x.was(n));
        }
        isNone("was(2)", x -> x.was(2));
    }

    private static void refusedOfTwo() {
        int[][] two = {{0, 0}, {3, 3}, {0, 7}, {7, 0}, {-1, 0}, {0, -1}, {7, 7}, {-1, -1}, {MIN, 0}, {0, MAX}, {0, 32}};
        for (int[] t : two) {
            String these = "(" + t[0] + ", " + t[1];
            isFalse("meet" + these + ", true)", x -> bit(x.meet(t[0], t[1], true)));
            isFalse("meet" + these + ", false)", x -> bit(x.meet(t[0], t[1], false)));
            isNone("both" + these + ", 0)", x -> x.both(t[0], t[1], 0));
            isNone("common" + these + ")", x -> x.common(t[0], t[1]));
        }
    }

    private static void refusedWhereNothingIs() {
        EachBringsAnother none = Feasts.feast("1!;2a");
        String before = Feasts.picture(none);
        Sentences.is("undo of none", none.undo(), -1);
        Sentences.is("all", Feasts.picture(none), before);
        EachBringsAnother full = Feasts.feast(Feasts.CHAIN);
        before = Feasts.picture(full);
        Sentences.is("an eleventh", full.baby(0), -1);
        Sentences.is("all", Feasts.picture(full), before);
        Feasts.tell(full, "1".repeat(80));
        Sentences.is("an 81st sign", full.sign(0), -1);
        Sentences.is("THE TEXT", full.count(8), 80);
        EachBringsAnother kept = Feasts.feast("1!;2a", 2, 9);
        kept.keep(1);
        kept.baby(1);
        Feasts.pass(kept, 1);
        before = Feasts.picture(kept);
        Sentences.is("PEOPLE came since", kept.again(1), false);
        Sentences.is("all", Feasts.picture(kept), before);
    }

    private static void isEmptied(String name, EachBringsAnother x, String text, long due, Call call) {
        Feasts.tell(x, text);
        Sentences.is(name, call.on(x), due);
        Sentences.is("signs behind " + name, x.count(8), 0);
    }

    private static void theTextIsEmptied() {
        EachBringsAnother x = new EachBringsAnother();
        isEmptied("land", x, "1!;2a;3a", 3, y -> y.land());
        isEmptied("an empty land", x, "", 0, y -> y.land());
        isEmptied("a wrong land", x, "1!;x", -4, y -> y.land());
        isEmptied("a wrong land, -1 - 0", x, "x!!!", -1, y -> y.land());
        isEmptied("rule", x, "p+i", 0, y -> y.rule());
        isEmptied("a wrong rule", x, "p+", -3, y -> y.rule());
        isEmptied("a wrong rule, -1 - 0", x, "+p", -1, y -> y.rule());
        isEmptied("80 signs", x, "1".repeat(80), -4, y -> y.rule());
        isEmptied("a wrong week", x, "a>", -3, y -> y.week());
        isEmptied("a PAIR that can't be", x, "b>c", -100, y -> y.week());
        x.law(1, 1);
        isEmptied("no SEAT", x, "a>c", -200, y -> y.week());
        x.law(1, 10);
        isEmptied("week", x, "a>c", 3, y -> y.week());
        EachBringsAnother over = Feasts.feast("1");
        Feasts.pass(over, 60);
        isEmptied("60 WEEKS went by", over, "a>b", -300, y -> y.week());
        callsThatDoNotReadIt();
    }

    private static void callsThatDoNotReadIt() {
        EachBringsAnother x = busy();
        x.of(0, 0);
        x.law(0, 2);
        x.meet(0, 3, true);
        x.hide(0, false);
        x.baby(0);
        x.sheet(3, 0, 0, 0);
        x.goes(1);
        x.undo();
        x.can();
        x.picks(0);
        x.pairs();
        x.bars();
        searchAll(x);
        x.bound();
        x.far(0);
        x.line(0);
        x.led(0);
        x.was(0);
        x.common(0, 1);
        x.father();
        x.keep(1);
        x.again(1);
        x.row(0);
        Sentences.is("THE TEXT", x.count(8), 4);
        Sentences.is("it can still be read", x.land(), 2);
        Sentences.is("as it is", x.of(9, 2), 1);
    }

    private static void searchAll(EachBringsAnother x) {
        x.states();
        x.most(1);
        x.reach(1);
        x.fewest(1);
        x.crowd();
        x.both(0, 1, 1);
        x.last();
        x.begin();
        x.cheap(1);
        x.stays(0);
        x.soonest(0);
        x.worth(3);
        x.needed();
        x.never();
    }

    private static void noneIsAskedFirst() {
        EachBringsAnother x = Feasts.feast(Feasts.CROWD, 3, 10);
        Sentences.is("too many STATES", x.states(), -3);
        Sentences.is("most(61)", x.most(61), -1);
        Sentences.is("reach(-1)", x.reach(-1), -1);
        Sentences.is("fewest(61)", x.fewest(61), -1);
        Sentences.is("both(0, 0, 1)", x.both(0, 0, 1), -1);
        Sentences.is("both(0, 9, 1)", x.both(0, 9, 1), -1);
        Sentences.is("both(0, 1, 61)", x.both(0, 1, 61), -1);
        Sentences.is("cheap(61)", x.cheap(61), -1);
        Sentences.is("stays(9)", x.stays(9), -1);
        Sentences.is("soonest(9)", x.soonest(9), -1);
        Sentences.is("worth(0)", x.worth(0), -1);
        Sentences.is("worth(9)", x.worth(9), -1);
        EachBringsAnother nobody = Feasts.feast("1;2?");
        Sentences.is("fewest(61)", nobody.fewest(61), -1);
        Sentences.is("both(0, 1, -1)", nobody.both(0, 1, -1), -1);
        Sentences.is("cheap(-1)", nobody.cheap(-1), -1);
        Sentences.is("worth of a HIDDEN one", nobody.worth(1), -1);
        Sentences.is("common(0, 0)", nobody.common(0, 0), -1);
        Sentences.is("picks(0)", nobody.picks(0), -1);
        Sentences.is("far(2)", nobody.far(2), -1);
        Sentences.is("sheet(4, -1, 0, 0)", nobody.sheet(4, -1, 0, 0), -1);
        Sentences.is("sheet(3, 11, 0, 0)", nobody.sheet(3, 11, 0, 0), -1);
    }

    private static void whatATextTellsWrongly() {
        EachBringsAnother x = Feasts.feast("1;2");
        Feasts.pass(x, 60);
        Sentences.is("ahead of 60 WEEKS", Feasts.week(x, "a>b;b"), -6);
        Sentences.is("ahead of 60 WEEKS", Feasts.week(x, "x"), -1);
        Sentences.is("60 WEEKS", Feasts.week(x, "a>b"), -300);
        EachBringsAnother full = Feasts.feast(Feasts.CHAIN);
        Sentences.is("no room for a LINE", Feasts.land(full, "1"), -1);
        Sentences.is("ahead of a PAIR that can't be", Feasts.week(full, "b>c;x"), -5);
    }

    private static void callsThatTellNoRow() {
        EachBringsAnother x = Feasts.feast("1!;2a;3b", 2, 10);
        x.goes(0);
        Feasts.land(x, "4a");
        Feasts.rule(x, "p");
        Feasts.week(x, "a>b");
        Feasts.week(x, "a>b");
        x.of(0, 0);
        x.law(0, 2);
        x.meet(0, 2, true);
        x.hide(2, false);
        x.baby(0);
        x.sheet(2, 3, 1, 1);
        Feasts.pass(x, 1);
        x.undo();
        x.picks(0);
        x.fewest(1);
        x.both(0, 1, 1);
        x.soonest(2);
        x.worth(2);
        x.needed();
        x.never();
        x.bound();
        x.was(0);
        x.common(0, 1);
        x.keep(0);
        x.again(0);
        Sentences.rowIs(x, 1, 0);
    }

    private static void rowStays(String name, int due, EachBringsAnother x, Call call) {
        x.goes(0);
        Sentences.is(name, call.on(x), due);
        Sentences.rowIs(x, x.count(2), 0);
    }

    private static void theRowStaysWithNone() {
        EachBringsAnother x = Feasts.feast("1!;2a;3b");
        rowStays("goes(61)", -1, x, y -> y.goes(61));
        rowStays("most(61)", -1, x, y -> y.most(61));
        rowStays("reach(-1)", -1, x, y -> y.reach(-1));
        rowStays("cheap(61)", -1, x, y -> y.cheap(61));
        rowStays("stays(3)", -1, x, y -> y.stays(3));
        rowStays("far(3)", -1, x, y -> y.far(3));
        rowStays("line(3)", -1, x, y -> y.line(3));
        rowStays("led(3)", -1, x, y -> y.led(3));
    }

    private static void theRowStaysBelow0() {
        EachBringsAnother x = Feasts.feast(Feasts.CROWD, 3, 10);
        rowStays("states", -3, x, y -> y.states());
        rowStays("most", -3, x, y -> y.most(0));
        rowStays("reach", -3, x, y -> y.reach(0));
        rowStays("crowd", -3, x, y -> y.crowd());
        rowStays("last", -3, x, y -> y.last());
        rowStays("begin", -3, x, y -> y.begin());
        rowStays("cheap", -3, x, y -> y.cheap(0));
        rowStays("stays", -3, x, y -> y.stays(0));
        EachBringsAnother nobody = Feasts.feast("1;2a");
        rowStays("last", -2, nobody, y -> y.last());
        rowStays("begin", -2, nobody, y -> y.begin());
        rowStays("cheap", -2, nobody, y -> y.cheap(1));
        rowStays("stays", -2, nobody, y -> y.stays(0));
        rowStays("far", -2, nobody, y -> y.far(0));
        rowStays("father", -2, nobody, y -> y.father());
        rowStays("begin", -2, Feasts.feast("1!"), y -> y.begin());
    }

    private static void the512thCall() {
        EachBringsAnother x = new EachBringsAnother();
        for (int k = 1; k <= 170; k++) {
            Sentences.is("sign", x.sign('1' << 24), 4);
            Sentences.is("end", x.end(1), true);
            Sentences.is("land", x.land(), k <= 10 ? 1 : -1);
        }
        Sentences.is("the 511th", x.count(0), 10);
        Sentences.is("the 512th", x.states(), 1);
    }
}
