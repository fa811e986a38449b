/** Edges that promises 12 to 18 name. */
final class WeekEdges {
    private WeekEdges() {
    }

    static void all() {
        weeksTold();
        weeksByTheRule();
        undone();
        nextWeeks();
    }

    private static void weeksTold() {
        Sentences.underPromise(12);
        Sentences.holds("(an empty one: nobody brings anybody)", WeekEdges::emptyWeek);
        Sentences.holds("it goes by: what it cost", WeekEdges::whatAWeekCosts);
        Sentences.holds("PAIRS with ; between: a letter, >, a letter (whether there or not)", WeekEdges::lettersThereOrNot);
        Sentences.holds("-1 - p: the sign at p can't stand there", WeekEdges::wrongSignOfAWeek);
        Sentences.holds("its end, if it ends too early", WeekEdges::weekEndsTooEarly);
        Sentences.holds("40, if it has more and the first 40 could go on or end", WeekEdges::moreThan40Signs);
        Sentences.holds("-300: 60 WEEKS went by", WeekEdges::sixtyWeeksWentBy);
        Sentences.holds("-100 - k: PAIR k (0 ..) can't be", WeekEdges::firstWrongPair);
        Sentences.holds("who brings is no GUEST", WeekEdges::whoBringsIsNoGuest);
        Sentences.holds("or brings already", WeekEdges::bringsAlready);
        Sentences.holds("who is brought is no STRANGER", WeekEdges::broughtIsNoStranger);
        Sentences.holds(" HIDDEN,", WeekEdges::broughtIsHidden);
        Sentences.holds("not known", WeekEdges::broughtIsNotKnown);
        Sentences.holds("brought already)", WeekEdges::broughtAlready);
        Sentences.holds("-200: more than SEATS", WeekEdges::moreThanSeats);
        Sentences.holds("(asked in this order)", WeekEdges::askedInThisOrder);
    }

    private static void weeksByTheRule() {
        Sentences.underPromise(13);
        Sentences.holds("n WEEKS (0 .. 60) go by THE RULE", WeekEdges::goesFrom0To60);
        Sentences.holds("till no GUESTS are left", WeekEdges::tillNoGuestsAreLeft);
        Sentences.holds("(or 60 went by)", WeekEdges::tillSixtyWentBy);
        Sentences.holds("the ROW: GUESTS then (bits), what it cost", WeekEdges::guestsThenAndCost);
        Sentences.holds("NONE: another n.", WeekEdges::goesAnotherN);
    }

    private static void undone() {
        Sentences.underPromise(14);
        Sentences.holds("of all there were", WeekEdges::allAreUndone);
        Sentences.holds("who is what, LATE, who BROUGHT whom, what was paid are as ahead of it", WeekEdges::asAheadOfIt);
        Sentences.holds("WEEKS then.", WeekEdges::weeksThen);
        Sentences.holds("Refused: none.", WeekEdges::undoNone);
        Sentences.holds("land(), baby() and again() let no WEEK ahead of them be undone", WeekEdges::noWeekAhead);
        Sentences.holds("if they are not refused", WeekEdges::refusedOnesLet);
        Sentences.holds("an empty land() does not", WeekEdges::anEmptyLandLets);
    }

    private static void nextWeeks() {
        Sentences.underPromise(15);
        Sentences.holds("Who could bring somebody in the next WEEK (bits); the ROW: who could be brought (bits).", WeekEdges::whoCould);
        Sentences.underPromise(16);
        Sentences.holds("-2: nobody", WeekEdges::picksNobody);
        Sentences.holds("NONE: no GUEST.", WeekEdges::picksOfNoGuest);
        Sentences.underPromise(17);
        Sentences.holds("The most who can bring somebody in the next WEEK", WeekEdges::mostWhoCan);
        Sentences.holds("(whatever SEATS are)", WeekEdges::whateverSeatsAre);
        Sentences.holds("the least row of as many", WeekEdges::leastOfAsMany);
        Sentences.underPromise(18);
        Sentences.holds("all of them together KNOW so many STRANGERS (not HIDDEN) fewer than they are", WeekEdges::fewerThanTheyAre);
        Sentences.holds("the least such set as a number", WeekEdges::leastSet);
        Sentences.holds("0: all can (the ROW 0, 0).", WeekEdges::allCan);
    }

    private static void emptyWeek() {
        EachBringsAnother x = Feasts.feast("9!;9a", 2, 1);
        Sentences.is("an empty one", x.week(), 0);
        Sentences.is("LATE", x.of(0, 4), 1);
        Sentences.is("WEEKS", x.count(1), 1);
        Sentences.is("paid", x.count(5), 0);
        EachBringsAnother nobody = new EachBringsAnother();
        Sentences.is("of nobody", nobody.week(), 0);
        Sentences.is("WEEKS", nobody.count(1), 1);
    }

    private static void whatAWeekCosts() {
        EachBringsAnother x = Feasts.feast("0!;9a;0b;9c;8d;7d");
        Sentences.is("9", Feasts.week(x, "a>b"), 9);
        Sentences.is("0", Feasts.week(x, "b>c"), 0);
        Sentences.is("9", Feasts.week(x, "c>d"), 9);
        x.sheet(2, 10, 4, 0);
        Sentences.is("PRICES as they are", Feasts.week(x, "d>f"), 4);
        Sentences.is("paid", x.count(5), 22);
        EachBringsAnother y = Feasts.feast("0!;0!;0!;0!;0!;9a;9b;9c;9d;9e");
        Sentences.is("45", Feasts.week(y, "a>f;b>g;c>h;d>i;e>j"), 45);
        Sentences.is("paid", y.count(5), 45);
    }

    private static void weekIs(String text, int due) {
        EachBringsAnother x = Feasts.feast(Feasts.FIVE);
        String before = Feasts.picture(x);
        Sentences.is("week " + text, Feasts.week(x, text), due);
        Sentences.is("all behind " + text, Feasts.picture(x), before);
    }

    private static void lettersThereOrNot() {
        weekIs("f>b", -100);
        weekIs("j>b", -100);
        weekIs("a>f", -100);
        weekIs("a>j", -100);
        weekIs("a>b;j>j", -101);
        weekIs("k>b", -1);
        weekIs("a>k", -3);
        weekIs("z>b", -1);
        weekIs("`>b", -1);
        weekIs("a>`", -3);
    }

    private static void wrongSignOfAWeek() {
        weekIs("x", -1);
        weekIs(";", -1);
        weekIs(">", -1);
        weekIs("1", -1);
        weekIs("A>b", -1);
        weekIs("a", -2);
        weekIs("ab", -2);
        weekIs("a;b", -2);
        weekIs("a<b", -2);
        weekIs("a>>b", -3);
        weekIs("a>;", -3);
        weekIs("a>B", -3);
        weekIs("a>1", -3);
        weekIs("a>bc", -4);
        weekIs("a>b,", -4);
        weekIs("a>b>", -4);
        weekIs("a>b;;", -5);
        weekIs("a>b; c>d", -5);
        weekIs("a>b;c>d;x", -9);
        weekIs("\u00e1>b", -1);
        weekIs("a>b\0", -4);
    }

    private static void weekEndsTooEarly() {
        weekIs("a", -2);
        weekIs("a>", -3);
        weekIs("a>b;", -5);
        weekIs("a>b;c", -6);
        weekIs("a>b;c>", -7);
        weekIs("a>b;".repeat(9) + "a>", -39);
        weekIs("a>b;".repeat(10), -41);
    }

    private static void moreThan40Signs() {
        String all = "a>b;".repeat(20);
        weekIs(all.substring(0, 39), -101);
        weekIs(all.substring(0, 40), -41);
        for (int n = 41; n <= 80; n += 3) {
            weekIs(all.substring(0, n), -41);
        }
        weekIs(all.substring(0, 40) + "x", -41);
        weekIs(all.substring(0, 39) + "x", -40);
        weekIs(all.substring(0, 39) + "xx", -40);
        weekIs("x" + all.substring(1), -1);
    }

    private static void sixtyWeeksWentBy() {
        EachBringsAnother x = Feasts.feast("1;1a");
        Feasts.pass(x, 59);
        Sentences.is("the 60th", Feasts.week(x, ""), 0);
        Sentences.is("one more", Feasts.week(x, ""), -300);
        Sentences.is("one more that can't be", Feasts.week(x, "a>b"), -300);
        Sentences.is("WEEKS", x.count(1), 60);
        Sentences.is("undo", x.undo(), 59);
        Sentences.is("the 60th once more", Feasts.week(x, ""), 0);
        Sentences.is("one more", Feasts.week(x, ""), -300);
    }

    private static void firstWrongPair() {
        EachBringsAnother x = Feasts.feast("0!;0!;0!;0!;0!;0a;0b;0c;0d;0e");
        String all = "a>f;b>g;c>h;d>i;e>j";
        for (int k = 0; k < 5; k++) {
            StringBuilder wrong = new StringBuilder(all);
            wrong.setCharAt(4 * k + 2, 'a');
            Sentences.is("week " + wrong, Feasts.week(x, wrong.toString()), -100 - k);
        }
        Sentences.is("the first of two", Feasts.week(x, "a>f;b>a;c>a"), -101);
        Sentences.is("PAIR 9", Feasts.week(x, all + ";a>f;b>g;c>h;d>i;e>j"), -105);
        Sentences.is("nobody came", x.count(3), 0b1111100000);
        Sentences.is("all", Feasts.week(x, all), 0);
    }

    private static void whoBringsIsNoGuest() {
        EachBringsAnother x = Feasts.feast("0!;0a;0b;0!;0d");
        Sentences.is("a STRANGER", Feasts.week(x, "b>c"), -100);
        Sentences.is("one brought in that WEEK", Feasts.week(x, "a>b;b>c"), -101);
        Sentences.is("none such", Feasts.week(x, "f>c"), -100);
        EachBringsAnother first = Feasts.feast("0;0a;0b!");
        Sentences.is("a STRANGER brings the first", Feasts.week(first, "b>a"), -100);
        Sentences.is("none such brings the first", Feasts.week(first, "j>a"), -100);
        Feasts.week(x, "a>b");
        Sentences.is("one who is OUT", Feasts.week(x, "d>e"), -100);
        Sentences.is("a GUEST", Feasts.week(x, "b>c"), 0);
    }

    private static void bringsAlready() {
        EachBringsAnother x = Feasts.feast("0!;0a;0a;0!;0d");
        Sentences.is("two of one", Feasts.week(x, "a>b;a>c"), -101);
        Sentences.is("with one between", Feasts.week(x, "a>b;d>e;a>c"), -102);
        Sentences.is("one of each", Feasts.week(x, "a>b;d>e"), 0);
        Sentences.is("in another WEEK", Feasts.week(x, "a>c"), 0);
    }

    private static void broughtIsNoStranger() {
        EachBringsAnother x = Feasts.feast("0!;0a!;0ab;0a");
        Sentences.is("a GUEST", Feasts.week(x, "a>b"), -100);
        Sentences.is("itself", Feasts.week(x, "a>a"), -100);
        Sentences.is("none such", Feasts.week(x, "a>e"), -100);
        Feasts.week(x, "a>c");
        Sentences.is("one who is OUT", Feasts.week(x, "a>b"), -100);
        Sentences.is("one brought earlier", Feasts.week(x, "a>c"), -100);
        Sentences.is("a STRANGER", Feasts.week(x, "a>d"), 0);
    }

    private static void broughtIsHidden() {
        EachBringsAnother x = Feasts.feast("0!?;0a?;0a");
        Sentences.is("HIDDEN", Feasts.week(x, "a>b"), -100);
        x.hide(1, false);
        x.hide(2, true);
        Sentences.is("HIDDEN", Feasts.week(x, "a>c"), -100);
        Sentences.is("not HIDDEN, by a HIDDEN GUEST", Feasts.week(x, "a>b"), 0);
    }

    private static void broughtIsNotKnown() {
        EachBringsAnother x = Feasts.feast("0!;0a;0b;0");
        Sentences.is("KNOWN by another one", Feasts.week(x, "a>c"), -100);
        Sentences.is("KNOWN by nobody", Feasts.week(x, "a>d"), -100);
        x.meet(0, 1, false);
        Sentences.is("KNOWN no more", Feasts.week(x, "a>b"), -100);
        x.meet(3, 0, true);
        Sentences.is("KNOWN", Feasts.week(x, "a>d"), 0);
    }

    private static void broughtAlready() {
        EachBringsAnother x = Feasts.feast("0!;0!;0ab;0a");
        Sentences.is("by both", Feasts.week(x, "a>c;b>c"), -101);
        Sentences.is("by both, backwards", Feasts.week(x, "b>c;a>c"), -101);
        Sentences.is("unlike ones", Feasts.week(x, "b>c;a>d"), 0);
    }

    private static void moreThanSeats() {
        EachBringsAnother x = Feasts.feast("0!;0!;0a;0b", 1, 1);
        int[] most = {0, 0, 1, 1, 2, 2};
        for (int seats = 1; seats <= 5; seats++) {
            x.law(1, seats);
            Sentences.is("one PAIR, SEATS " + seats, Feasts.week(x, "a>c"), most[seats] > 0 ? 0 : -200);
            if (most[seats] > 0) {
                x.undo();
            }
            Sentences.is("two PAIRS, SEATS " + seats, Feasts.week(x, "a>c;b>d"), most[seats] > 1 ? 0 : -200);
            if (most[seats] > 1) {
                x.undo();
            }
        }
        EachBringsAnother stay = Feasts.feast("0!;0!;0a", 2, 2);
        Sentences.is("b stays", Feasts.week(stay, "a>c"), -200);
        Sentences.is("nobody changed", stay.count(2), 3);
        stay.law(1, 3);
        Sentences.is("b stays", Feasts.week(stay, "a>c"), 0);
    }

    private static void askedInThisOrder() {
        EachBringsAnother x = Feasts.feast("0!;0a;0b", 3, 1);
        Feasts.pass(x, 60);
        Sentences.is("what it tells wrongly, ahead of all", Feasts.week(x, "b>c;a>b;"), -9);
        Sentences.is("60 WEEKS ahead of PAIRS", Feasts.week(x, "b>c;a>b"), -300);
        Feasts.land(x, "0!;0d");
        Sentences.is("60 WEEKS ahead of SEATS", Feasts.week(x, "d>e"), -300);
        EachBringsAnother y = Feasts.feast("0!;0a;0b", 1, 1);
        Sentences.is("what it tells wrongly ahead of PAIRS", Feasts.week(y, "b>c;x"), -5);
        Sentences.is("PAIRS ahead of SEATS", Feasts.week(y, "a>b;b>c"), -101);
        Sentences.is("SEATS", Feasts.week(y, "a>b"), -200);
    }

    private static void goesFrom0To60() {
        EachBringsAnother x = Feasts.feast(Feasts.FIVE);
        Sentences.is("goes(0)", x.goes(0), 0);
        Sentences.is("WEEKS", x.count(1), 0);
        Sentences.is("goes(1)", x.goes(1), 1);
        Sentences.is("WEEKS", x.count(1), 1);
        Sentences.is("goes(2)", x.goes(2), 2);
        Sentences.is("WEEKS", x.count(1), 3);
        EachBringsAnother y = Feasts.feast("0!", 3, 10);
        Sentences.is("goes(60)", y.goes(60), 3);
    }

    private static void tillNoGuestsAreLeft() {
        EachBringsAnother x = Feasts.feast("1!;2a");
        Sentences.is("one, then nobody", x.goes(60), 2);
        Sentences.rowIs(x, 0, 2);
        Sentences.is("nobody is left", x.goes(60), 0);
        Sentences.rowIs(x, 0, 0);
        Sentences.is("WEEKS", x.count(1), 2);
        Sentences.is("nobody ever", Feasts.feast("1;2a").goes(3), 0);
    }

    private static void tillSixtyWentBy() {
        EachBringsAnother x = Feasts.feast("0");
        Feasts.pass(x, 58);
        Feasts.land(x, "0!;0b;0c");
        x.law(0, 3);
        Sentences.is("two more", x.goes(60), 2);
        Sentences.rowIs(x, 0b1110, 0);
        Sentences.is("none", x.goes(1), 0);
        Sentences.rowIs(x, 0b1110, 0);
        Sentences.is("undo", x.undo(), 59);
        Sentences.is("one more", x.goes(3), 1);
        Sentences.is("WEEKS", x.count(1), 60);
    }

    private static void guestsThenAndCost() {
        EachBringsAnother x = Feasts.feast(Feasts.FIVE);
        x.goes(0);
        Sentences.rowIs(x, 1, 0);
        x.goes(1);
        Sentences.rowIs(x, 0b00011, 2);
        x.goes(2);
        Sentences.rowIs(x, 0b11000, 12);
        x.goes(1);
        Sentences.rowIs(x, 0, 0);
        Sentences.is("paid", x.count(5), 14);
    }

    private static void goesAnotherN() {
        EachBringsAnother x = Feasts.feast(Feasts.FIVE);
        for (int n : new int[] {-1, 61, Integer.MAX_VALUE, Integer.MIN_VALUE}) {
            Sentences.is("goes(" + n + ")", x.goes(n), -1);
        }
        Sentences.is("WEEKS", x.count(1), 0);
        Sentences.rowIs(x);
    }

    private static void allAreUndone() {
        EachBringsAnother x = Feasts.feast("0!;0a");
        Feasts.week(x, "a>b");
        Feasts.pass(x, 59);
        Sentences.is("count(6)", x.count(6), 60);
        for (int k = 59; k >= 0; k--) {
            Sentences.is("undo", x.undo(), k);
            Sentences.is("count(6)", x.count(6), k);
        }
        Sentences.is("none is left", x.undo(), -1);
        Sentences.is("GUESTS", x.count(2), 1);
        Sentences.is("STRANGERS", x.count(3), 2);
    }

    private static void asAheadOfIt() {
        EachBringsAnother x = Feasts.feast("1!;2a;3b;4!", 2, 10);
        String[] weeks = {"", "a>b", "b>c"};
        String[] before = new String[weeks.length];
        for (int k = 0; k < weeks.length; k++) {
            before[k] = Feasts.picture(x);
            Feasts.week(x, weeks[k]);
        }
        for (int k = weeks.length - 1; k >= 0; k--) {
            x.undo();
            Sentences.is("all ahead of WEEK " + (k + 1), Feasts.picture(x), before[k]);
        }
        Sentences.is("goes(60)", x.goes(60), 4);
        Sentences.is("the fourth", x.undo(), 3);
        Sentences.is("GUESTS", x.count(2), 0b0110);
        Sentences.is("LATE", x.of(2, 4), 1);
        for (int k = 2; k >= 0; k--) {
            x.undo();
        }
        Sentences.is("GUESTS", x.count(2), 0b1001);
        Sentences.is("paid", x.count(5), 0);
        EachBringsAnother first = Feasts.feast("1;2a!");
        Feasts.week(first, "b>a");
        first.undo();
        Sentences.is("who BROUGHT the first", first.of(0, 5), -1);
    }

    private static void weeksThen() {
        EachBringsAnother x = Feasts.feast("0!");
        Feasts.pass(x, 2);
        Sentences.is("of two", x.undo(), 1);
        Sentences.is("of one", x.undo(), 0);
        Feasts.pass(x, 1);
        Sentences.is("of another one", x.undo(), 0);
    }

    private static void undoNone() {
        EachBringsAnother x = Feasts.feast("0!");
        Sentences.is("none yet", x.undo(), -1);
        Feasts.week(x, "a>b");
        Sentences.is("a WEEK that could not be is none", x.undo(), -1);
        x.goes(0);
        Sentences.is("goes(0) is none", x.undo(), -1);
        Feasts.pass(x, 1);
        x.undo();
        Sentences.is("none any more", x.undo(), -1);
    }

    private static void noWeekAhead() {
        for (int how = 0; how < 3; how++) {
            EachBringsAnother x = Feasts.feast("0!;0a", 3, 10);
            Feasts.week(x, "a>b");
            x.keep(0);
            Feasts.pass(x, 1);
            int done = how == 0 ? Feasts.land(x, "0") : how == 1 ? x.baby(0) : x.again(0) ? 1 : -1;
            Sentences.is("it is not refused", done > 0, true);
            Sentences.is("count(6)", x.count(6), 0);
            Sentences.is("undo", x.undo(), -1);
            Sentences.is("WEEKS", x.count(1), how == 2 ? 1 : 2);
            Feasts.pass(x, 2);
            Sentences.is("those behind it can be", x.count(6), 2);
            x.undo();
            x.undo();
            Sentences.is("and no more", x.undo(), -1);
            Sentences.is("WEEKS", x.count(1), how == 2 ? 1 : 2);
        }
    }

    private static void refusedOnesLet() {
        EachBringsAnother x = Feasts.feast("0!;0a", 3, 10);
        x.keep(0);
        Feasts.land(x, "0");
        Feasts.pass(x, 2);
        Sentences.is("a wrong land()", Feasts.land(x, "0;x"), -3);
        Sentences.is("a refused baby()", x.baby(8), -1);
        Sentences.is("a refused again()", x.again(0), false);
        Sentences.is("a refused again()", x.again(1), false);
        Sentences.is("a refused again()", x.again(2), false);
        Sentences.is("count(6)", x.count(6), 2);
        Sentences.is("undo", x.undo(), 1);
        Sentences.is("undo", x.undo(), 0);
        EachBringsAnother full = Feasts.feast(Feasts.CHAIN);
        Feasts.pass(full, 1);
        Sentences.is("no room for a baby", full.baby(0), -1);
        Sentences.is("no room for a LINE", Feasts.land(full, "0"), -1);
        Sentences.is("undo", full.undo(), 0);
    }

    private static void anEmptyLandLets() {
        EachBringsAnother x = Feasts.feast("0!;0a");
        Feasts.week(x, "a>b");
        Sentences.is("an empty land()", x.land(), 0);
        Sentences.is("count(6)", x.count(6), 1);
        Sentences.is("undo", x.undo(), 0);
        Sentences.is("GUESTS", x.count(2), 1);
    }

    private static void whoCould() {
        EachBringsAnother x = Feasts.feast("0!;0!;0a;0a?;0b;0c;0!");
        Sentences.is("can", x.can(), 0b011);
        Sentences.rowIs(x, 0b0010100);
        x.hide(4, true);
        Sentences.is("HIDDEN ones", x.can(), 0b001);
        Sentences.rowIs(x, 0b0000100);
        x.hide(2, true);
        Sentences.is("nobody", x.can(), 0);
        Sentences.rowIs(x, 0);
        EachBringsAnother last = Feasts.feast("0;0;0;0abc!");
        Sentences.is("the last alone", last.can(), 8);
        Sentences.rowIs(last, 7);
        EachBringsAnother nobody = Feasts.feast("0;0a");
        Sentences.is("no GUEST", nobody.can(), 0);
        Sentences.rowIs(nobody, 0);
        EachBringsAnother all = Feasts.feast("0!;0!;0!;0!;0!;0abcde;0abcde;0abcde;0abcde;0abcde");
        Sentences.is("all", all.can(), 31);
        Sentences.rowIs(all, 31 << 5);
    }

    private static void picksNobody() {
        EachBringsAnother x = Feasts.feast("0!;0!;0ab;0?");
        x.meet(3, 0, true);
        Sentences.is("somebody", x.picks(0), 2);
        Sentences.is("brought by one ahead", x.picks(1), -2);
        Feasts.rule(x, "i-3");
        Sentences.is("RULE below 0", x.picks(0), -2);
        Feasts.rule(x, "i-2");
        Sentences.is("RULE 0", x.picks(0), 2);
        x.law(1, 1);
        Sentences.is("no SEAT", x.picks(0), -2);
        x.law(1, 2);
        Sentences.is("a SEAT", x.picks(0), 2);
        x.hide(2, true);
        Sentences.is("HIDDEN ones", x.picks(0), -2);
        Sentences.is("KNOWS nobody", Feasts.feast("0!;0").picks(0), -2);
    }

    private static void picksOfNoGuest() {
        EachBringsAnother x = Feasts.feast("0!;0a;0!;0c");
        Feasts.week(x, "a>b");
        Sentences.is("a STRANGER", x.picks(3), -1);
        Sentences.is("one who is OUT", x.picks(2), -1);
        Sentences.is("a GUEST", x.picks(1), -2);
        for (int p : new int[] {4, -1, 10, 32, Integer.MAX_VALUE, Integer.MIN_VALUE}) {
            Sentences.is("picks(" + p + ")", x.picks(p), -1);
        }
    }

    private static void mostWhoCan() {
        Sentences.is("no GUEST", Feasts.feast("0;0a").pairs(), 0);
        Sentences.is("no STRANGER", Feasts.feast("0!;0a!").pairs(), 0);
        Sentences.is("no STRANGER it KNOWS", Feasts.feast("0!;0").pairs(), 0);
        Sentences.is("HIDDEN ones alone", Feasts.feast("0!;0a?").pairs(), 0);
        Sentences.is("two for one", Feasts.feast("0!;0!;0ab").pairs(), 1);
        Sentences.is("one for two", Feasts.feast("0!;0a;0a").pairs(), 1);
        EachBringsAnother x = Feasts.feast("0!;0!;0!;0!;0!;0ab;0bc;0cd;0de;0e");
        Sentences.is("five", x.pairs(), 5);
        Sentences.rowIs(x, 5, 16, 27, 38, 49);
        x.hide(9, true);
        Sentences.is("four for five", x.pairs(), 4);
        Sentences.rowIs(x, 5, 16, 27, 38);
    }

    private static void whateverSeatsAre() {
        for (int seats = 1; seats <= 4; seats++) {
            EachBringsAnother x = Feasts.feast("0!;0!;0a;0b", 1 + seats % 3, seats);
            Sentences.is("pairs, SEATS " + seats, x.pairs(), 2);
            Sentences.rowIs(x, 2, 13);
        }
    }

    private static void leastOfAsMany() {
        EachBringsAnother x = Feasts.feast("0!;0!;0!;0ab;0ab;0c;0c");
        Sentences.is("pairs", x.pairs(), 3);
        Sentences.rowIs(x, 3, 14, 25);
        x.hide(3, true);
        Sentences.is("pairs", x.pairs(), 2);
        Sentences.rowIs(x, 4, 25);
        EachBringsAnother y = Feasts.feast("0!;0!;0!;0ab;0a;0bc");
        Sentences.is("not the first one at once", y.pairs(), 3);
        Sentences.rowIs(y, 4, 13, 25);
        EachBringsAnother none = Feasts.feast("0!;0");
        none.pairs();
        Sentences.rowIs(none);
    }

    private static void fewerThanTheyAre() {
        EachBringsAnother x = Feasts.feast("0!;0!;0!;0abc;0abc?;0a?");
        Sentences.is("three KNOW one", x.bars(), 7);
        Sentences.rowIs(x, 2, 0b001000);
        x.hide(4, false);
        Sentences.is("three KNOW two", x.bars(), 7);
        Sentences.rowIs(x, 1, 0b011000);
        x.hide(5, false);
        Sentences.is("three KNOW three", x.bars(), 0);
        Sentences.rowIs(x, 0, 0);
        for (int p = 3; p <= 5; p++) {
            x.hide(p, true);
        }
        Sentences.is("three KNOW none", x.bars(), 7);
        Sentences.rowIs(x, 3, 0);
        EachBringsAnother ten = Feasts.feast("0!;0!;0!;0!;0!;0!;0!;0!;0!;0!");
        Sentences.is("ten KNOW none", ten.bars(), 1023);
        Sentences.rowIs(ten, 10, 0);
    }

    private static void leastSet() {
        EachBringsAnother x = Feasts.feast("0!;0!;0!;0!;0ab;0cd");
        Sentences.is("both pairs of them", x.bars(), 0b1111);
        Sentences.rowIs(x, 2, 0b110000);
        EachBringsAnother y = Feasts.feast("0!;0!;0!;0a;0bc");
        Sentences.is("without a, who can", y.bars(), 0b110);
        Sentences.rowIs(y, 1, 0b10000);
        EachBringsAnother z = Feasts.feast("0!;0!;0!;0!;0abd;0d");
        Sentences.is("c, who KNOWS none, is least with a and b", z.bars(), 0b0111);
        Sentences.rowIs(z, 2, 0b010000);
        EachBringsAnother one = Feasts.feast("0!;0!;0a;0a");
        Sentences.is("b alone", one.bars(), 0b10);
        Sentences.rowIs(one, 1, 0);
    }

    private static void allCan() {
        for (String land : new String[] {"0!;0a", "0!;0!;0ab;0ab", "0;0a", "0!;0a;0a", "0!;0!;0!;0!;0!;0a;0b;0c;0d;0e"}) {
            EachBringsAnother x = Feasts.feast(land);
            x.can();
            Sentences.is("bars of " + land, x.bars(), 0);
            Sentences.rowIs(x, 0, 0);
        }
        EachBringsAnother seats = Feasts.feast("0!;0a", 1, 1);
        Sentences.is("they can, but for SEATS", seats.bars(), 0);
    }
}
