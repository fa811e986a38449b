/** Edges that the document's Terms name. */
final class TermsEdges {
    private TermsEdges() {
    }

    static void all() {
        Sentences.under("Terms");
        people();
        theLand();
        aWeek();
        theRule();
        aWeekByTheRule();
        weeksAndRows();
    }

    private static void people() {
        Sentences.holds("PEOPLE 0 .. (at most 10; written a .. j)", TermsEdges::tenPeople);
        Sentences.holds("PRICE 0 .. 9", TermsEdges::prices);
        Sentences.holds("whom they KNOW (each other)", TermsEdges::eachOther);
        Sentences.holds("Each is a STRANGER (was never a GUEST), a GUEST with LATE 0 .. 2, or OUT.", TermsEdges::lateness);
    }

    private static void theLand() {
        Sentences.holds("THE LAND is a text of at most 76 signs", TermsEdges::landOf76Signs);
        Sentences.holds("LINES with ; between, each tells one of PEOPLE more, behind those there are", TermsEdges::behindThoseThereAre);
        Sentences.holds("letters of those ahead of it that it KNOWS (rising, perhaps none)", TermsEdges::risingLetters);
        Sentences.holds("perhaps ! (it is a GUEST, LATE 0; else a STRANGER), perhaps ? (HIDDEN)", TermsEdges::signsOfALine);
        Sentences.holds("what 0: GRACE 1 .. 3 (at first 1), 1: SEATS 1 .. 10 (10)", TermsEdges::lawsFromTo);
    }

    private static void aWeek() {
        Sentences.holds("some GUESTS each bring one STRANGER that they KNOW and that is not HIDDEN, unlike ones, that cost their PRICES",
            TermsEdges::unlikeOnes);
        Sentences.holds("all who were brought are GUESTS then, LATE 0, as are who brought them", TermsEdges::late0Again);
        Sentences.holds("of all other GUESTS LATE is 1 more, and who has GRACE or more of it is OUT", TermsEdges::graceOrMore);
        Sentences.holds("It may be, if nobody brings anybody, or GUESTS then are no more than SEATS.", TermsEdges::noMoreThanSeats);
    }

    private static void theRule() {
        Sentences.holds("THE RULE is a text of at most 40 signs (at first none: 0).", TermsEdges::ruleOf40Signs);
        Sentences.holds("< > = bind least (two; 1 or 0; not one behind the other)", TermsEdges::comparisons);
        Sentences.holds("then + - (from the left)", TermsEdges::sums);
        Sentences.holds("then * / (from the left; by 0: 0; cut to 0)", TermsEdges::productsAndQuotients);
        Sentences.holds("then - ahead of a thing (any many)", TermsEdges::minusAhead);
        Sentences.holds("a NUMBER of 1 to 3 digits", TermsEdges::digits);
        Sentences.holds("an EXPRESSION in ( ) (at most 4 in one another)", TermsEdges::inOneAnother);
        Sentences.holds("i its number, p PRICE", TermsEdges::numbersAndPrices);
        Sentences.holds("k how many it KNOWS, s how many STRANGERS (HIDDEN, too) it KNOWS, g how many GUESTS it KNOWS",
            TermsEdges::whomAStrangerKnows);
        Sentences.holds("of who would bring it: l its LATE, n its number; w WEEKS.", TermsEdges::whoWouldBring);
        Sentences.holds("As ints.", TermsEdges::asInts);
    }

    private static void aWeekByTheRule() {
        Sentences.holds("GUESTS by their numbers, each brings, of the STRANGERS it can and that nobody ahead brings",
            TermsEdges::nobodyAheadBrings);
        Sentences.holds("the one with the greatest RULE (of equal ones the first), if that is 0 at least", TermsEdges::zeroAtLeast);
        Sentences.holds("if GUESTS then would be no more than SEATS, as far as is known (nobody behind it bringing anybody)",
            TermsEdges::seatsAsFarAsIsKnown);
    }

    private static void weeksAndRows() {
        Sentences.holds("WEEKS: how many went by (at first 0; at most 60, then no more do).", TermsEdges::sixtyWeeks);
        Sentences.holds("Who BROUGHT one is noted, and who were GUESTS behind each WEEK (behind WEEK 0: as told).",
            TermsEdges::behindWeek0);
        Sentences.holds("Rows of numbers are compared from the first on.", TermsEdges::fromTheFirstOn);
        Sentences.holds("PAIRS are told as 10 times who brings, and who is brought.", TermsEdges::pairsAsNumbers);
        Sentences.holds("Searches are over all WEEKS that may be, from now on, THE LAW as it is", TermsEdges::fromNowOn);
        Sentences.holds("all STATES (who is a STRANGER, a GUEST with which LATE, OUT) that can come are counted first: more than 3000: -3.",
            TermsEdges::moreThan3000States);
    }

    private static void tenPeople() {
        EachBringsAnother x = Feasts.feast("0;0;0;0;0;0;0;0;0;0!");
        Sentences.is("count(0)", x.count(0), 10);
        Sentences.is("an eleventh by land()", Feasts.land(x, "1"), -1);
        Sentences.is("an eleventh by baby()", x.baby(0), -1);
        Sentences.is("count(0)", x.count(0), 10);
        x.meet(9, 0, true);
        Sentences.is("k is nobody's letter", Feasts.week(x, "k>a"), -1);
        Sentences.is("k is nobody's letter", Feasts.week(x, "j>k"), -3);
        Sentences.is("nor is the sign ahead of a", Feasts.week(x, "`>a"), -1);
        Sentences.is("j is the tenth's", Feasts.week(x, "j>a"), 0);
        Sentences.is("GUESTS", x.count(2), 1 << 9 | 1);
        EachBringsAnother y = Feasts.feast("0;0;0;0;0;0;0;0;0");
        Sentences.is("a tenth by baby()", y.baby(0), 9);
        Sentences.is("an eleventh by baby()", y.baby(0), -1);
    }

    private static void prices() {
        EachBringsAnother x = Feasts.feast("0;9");
        Sentences.is("of(0, 0)", x.of(0, 0), 0);
        Sentences.is("of(1, 0)", x.of(1, 0), 9);
        Sentences.is("the sign ahead of 0", Feasts.land(x, "/"), -1);
        Sentences.is("the sign behind 9", Feasts.land(x, ":"), -1);
        Sentences.is("10 is no PRICE", Feasts.land(x, "10"), -2);
        Sentences.is("nor is -1", Feasts.land(x, "-1"), -1);
    }

    private static void eachOther() {
        EachBringsAnother x = Feasts.feast("0;0a;0ab");
        Sentences.is("of(0, 1)", x.of(0, 1), 0b110);
        Sentences.is("of(1, 1)", x.of(1, 1), 0b101);
        Sentences.is("of(2, 1)", x.of(2, 1), 0b011);
    }

    private static void lateness() {
        EachBringsAnother x = Feasts.feast("0!;0a", 3, 10);
        for (int late = 0; late <= 2; late++) {
            Sentences.is("a GUEST", x.of(0, 3), 1);
            Sentences.is("LATE", x.of(0, 4), late);
            Feasts.pass(x, 1);
        }
        Sentences.is("OUT", x.of(0, 3), 2);
        Sentences.is("and no STRANGER", x.count(3), 2);
        Feasts.land(x, "0a!");
        Sentences.is("is brought no more", Feasts.week(x, "c>a"), -100);
        Feasts.pass(x, 4);
        Sentences.is("stays OUT", x.of(0, 3), 2);
    }

    /** 77 signs, of which any many from the first on can stand there. */
    static final String LAND_77 = "1!?;1a!?;1ab!?;1abc!?;1abcd!?;1abcde!?;1abcdef!?;1abcdefg!?;1abcdefgh!?;1abcdefg!";

    private static void landOf76Signs() {
        EachBringsAnother x = new EachBringsAnother();
        Sentences.is("77 signs", Feasts.land(x, LAND_77.substring(0, 77)), -77);
        Sentences.is("76 signs", Feasts.land(x, LAND_77.substring(0, 76)), 10);
    }

    private static void behindThoseThereAre() {
        EachBringsAnother x = new EachBringsAnother();
        Sentences.is("one", Feasts.land(x, "1!"), 1);
        Sentences.is("two behind it", Feasts.land(x, "2a;3ab!"), 2);
        Sentences.is("PEOPLE", x.count(0), 3);
        Sentences.is("of(1, 0)", x.of(1, 0), 2);
        Sentences.is("of(2, 1)", x.of(2, 1), 3);
        Sentences.is("GUESTS", x.count(2), 0b101);
    }

    private static void risingLetters() {
        Sentences.is("none", Feasts.land(new EachBringsAnother(), "1;1"), 2);
        Sentences.is("all", Feasts.land(new EachBringsAnother(), "1;1a;1ab;1abc"), 4);
        Sentences.is("some", Feasts.land(new EachBringsAnother(), "1;1;1;1ac"), 4);
        Sentences.is("like ones", Feasts.land(new EachBringsAnother(), "1;1aa"), -5);
        Sentences.is("falling ones", Feasts.land(new EachBringsAnother(), "1;1;1ba"), -7);
        Sentences.is("its own", Feasts.land(new EachBringsAnother(), "1;1b"), -4);
        Sentences.is("its own, the first", Feasts.land(new EachBringsAnother(), "1a"), -2);
        Sentences.is("one behind it", Feasts.land(new EachBringsAnother(), "1;1c;1"), -4);
    }

    private static void signsOfALine() {
        EachBringsAnother x = Feasts.feast("1;1!;1?;1!?;1ab!?");
        int[] is = {0, 1, 0, 1, 1};
        int[] hidden = {0, 0, 1, 1, 1};
        Feasts.land(x, "2!?;2?;2!;2");
        Sentences.is("GUESTS of both LANDS", x.count(2), 0b010111010);
        Sentences.is("HIDDEN ones of both LANDS", x.count(9), 0b001111100);
        for (int p = 0; p < 5; p++) {
            Sentences.is("of(" + p + ", 3)", x.of(p, 3), is[p]);
            Sentences.is("of(" + p + ", 4)", x.of(p, 4), is[p] == 1 ? 0 : -1);
            Sentences.is("of(" + p + ", 2)", x.of(p, 2), hidden[p]);
        }
        Sentences.is("? ahead of !", Feasts.land(new EachBringsAnother(), "1?!"), -3);
        Sentences.is("two !", Feasts.land(new EachBringsAnother(), "1!!"), -3);
        Sentences.is("two ?", Feasts.land(new EachBringsAnother(), "1??"), -3);
        Sentences.is("letters behind !", Feasts.land(new EachBringsAnother(), "1;1!a"), -5);
    }

    private static void lawsFromTo() {
        EachBringsAnother x = new EachBringsAnother();
        Sentences.is("GRACE at first", x.law(0, 3), 1);
        Sentences.is("SEATS at first", x.law(1, 1), 10);
        Sentences.is("GRACE 4", x.law(0, 4), -1);
        Sentences.is("GRACE 0", x.law(0, 0), -1);
        Sentences.is("SEATS 11", x.law(1, 11), -1);
        Sentences.is("SEATS 0", x.law(1, 0), -1);
        Sentences.is("GRACE 1", x.law(0, 1), 3);
        Sentences.is("SEATS 10", x.law(1, 10), 1);
        Sentences.is("GRACE was 1", x.law(0, 2), 1);
        Sentences.is("SEATS were 10", x.law(1, 5), 10);
    }

    private static void unlikeOnes() {
        EachBringsAnother x = Feasts.feast("9!;9!;1ab;2ab?;3;4b");
        Sentences.is("both bring one", Feasts.week(x, "a>c;b>c"), -101);
        Sentences.is("one that is HIDDEN", Feasts.week(x, "a>d"), -100);
        Sentences.is("one that it does not KNOW", Feasts.week(x, "a>e"), -100);
        Sentences.is("a GUEST", Feasts.week(x, "a>b"), -100);
        Sentences.is("one brings two", Feasts.week(x, "b>c;b>f"), -101);
        Sentences.is("two bring unlike ones", Feasts.week(x, "a>c;b>f"), 5);
        Sentences.is("what was paid", x.count(5), 5);
        EachBringsAnother all = Feasts.feast("0!;0!;0!;0!;0!;9a;9b;9c;9d;9e");
        Sentences.is("all GUESTS bring one", Feasts.week(all, "a>f;b>g;c>h;d>i;e>j"), 45);
        Sentences.is("GUESTS", all.count(2), 1023);
    }

    private static void late0Again() {
        EachBringsAnother x = Feasts.feast("0!;0!;0a", 3, 10);
        Feasts.pass(x, 2);
        Sentences.is("of(0, 4)", x.of(0, 4), 2);
        Sentences.is("week", Feasts.week(x, "a>c"), 0);
        Sentences.is("who brought", x.of(0, 4), 0);
        Sentences.is("who was brought", x.of(2, 4), 0);
        Sentences.is("who did not", x.of(1, 3), 2);
    }

    private static void graceOrMore() {
        for (int grace = 1; grace <= 3; grace++) {
            EachBringsAnother x = Feasts.feast("0!", grace, 10);
            Feasts.pass(x, grace - 1);
            Sentences.is("LATE below GRACE " + grace, x.of(0, 4), grace - 1);
            Feasts.pass(x, 1);
            Sentences.is("as LATE as GRACE " + grace, x.of(0, 3), 2);
        }
        EachBringsAnother more = Feasts.feast("0!;0a", 3, 10);
        Feasts.pass(more, 2);
        more.law(0, 1);
        Sentences.is("no WEEK went by", more.of(0, 4), 2);
        Feasts.pass(more, 1);
        Sentences.is("LATE more than GRACE", more.of(0, 3), 2);
        EachBringsAnother brings = Feasts.feast("0!;0a", 3, 10);
        Feasts.pass(brings, 2);
        brings.law(0, 1);
        Feasts.week(brings, "a>b");
        Sentences.is("of others alone", brings.of(0, 4), 0);
    }

    private static void noMoreThanSeats() {
        EachBringsAnother x = Feasts.feast("0!;0!;0!;0a;0b", 2, 2);
        Sentences.is("more GUESTS than SEATS, nobody brings", Feasts.week(x, ""), 0);
        Sentences.is("they stay", x.count(2), 7);
        x.law(0, 3);
        x.law(1, 3);
        Sentences.is("one more than SEATS", Feasts.week(x, "a>d"), -200);
        x.law(1, 4);
        Sentences.is("as many as SEATS", Feasts.week(x, "a>d"), 0);
        Sentences.is("GUESTS", x.count(2), 0b1111);
        EachBringsAnother out = Feasts.feast("0!;0!;0!;0a;0b", 1, 2);
        Sentences.is("who is OUT then takes no SEAT", Feasts.week(out, "a>d"), 0);
        Sentences.is("GUESTS", out.count(2), 0b1001);
        EachBringsAnother one = Feasts.feast("0!;0a", 1, 1);
        Sentences.is("one SEAT is for nobody more", Feasts.week(one, "a>b"), -200);
        EachBringsAnother ten = Feasts.feast("0!;0!;0!;0!;0!;0!;0!;0!;0!;0abcdefghi", 3, 9);
        Sentences.is("ten and nine SEATS", Feasts.week(ten, "i>j"), -200);
        ten.law(1, 10);
        Sentences.is("ten and ten SEATS", Feasts.week(ten, "i>j"), 0);
    }

    private static final String RULE_40 = "1+1+1+1+1+1+1+1+1+1+1+1+1+1+1+1+1+1+1-20";

    private static void ruleOf40Signs() {
        EachBringsAnother x = Feasts.feast("0;0!;0b;0ab");
        Sentences.is("0 of all: the first", x.picks(1), 2);
        Sentences.is("40 signs", Feasts.rule(x, RULE_40), 0);
        Sentences.is("19 - 20", x.picks(1), -2);
        Sentences.is("none", Feasts.rule(x, ""), 0);
        Sentences.is("0 again", x.picks(1), 2);
        Sentences.is("41 signs", Feasts.rule(x, RULE_40 + "0"), -41);
        Sentences.is("and no other RULE", x.picks(1), 2);
    }

    /** What an EXPRESSION of the STRANGER b (PRICE 7), whom a alone would bring, has to be: -999 .. 999. */
    private static void valueIs(String expression, int due) {
        EachBringsAnother x = Feasts.feast("1!;7a");
        Sentences.is(expression + " can stand there", Feasts.rule(x, "(" + expression + ")-" + due), 0);
        Sentences.is(expression + " is " + due + " at least", x.picks(0), 1);
        Sentences.is(expression + " can stand there", Feasts.rule(x, "(" + expression + ")-" + due + "-1"), 0);
        Sentences.is(expression + " is no more than " + due, x.picks(0), -2);
    }

    private static void ruleIs(String text, int due) {
        Sentences.is("rule " + text, Feasts.rule(Feasts.feast("1!;7a"), text), due);
    }

    private static void comparisons() {
        valueIs("2<3", 1);
        valueIs("3<3", 0);
        valueIs("3>2", 1);
        valueIs("3>3", 0);
        valueIs("3=3", 1);
        valueIs("3=2", 0);
        valueIs("2<3-1", 0);
        valueIs("2+1>2", 1);
        valueIs("2*3=3+3", 1);
        valueIs("-1<0", 1);
        valueIs("(1<2)<2", 1);
        valueIs("3>(2>1)", 1);
        valueIs("(3=3)+(3=2)+(2=3)", 1);
        ruleIs("1+2<3", 0);
        ruleIs("(1+2)<3", 0);
        ruleIs("1<2+3", 0);
        ruleIs("1<2<3", -4);
        ruleIs("1=2>3", -4);
        ruleIs("1>2+3=4", -6);
        ruleIs("(1<2<3)", -5);
        ruleIs("(1<2)<(3<4)", 0);
        ruleIs("(1<2)<3<4", -8);
        ruleIs("1<(2<3)<4", -8);
        EachBringsAnother x = Feasts.feastBy("p-8<0", "1!;7a");
        Sentences.is("7 - 8 < 0 is 1", x.picks(0), 1);
        Feasts.rule(x, "0-p<8");
        Sentences.is("0 - 7 < 8 is 1", x.picks(0), 1);
        Feasts.rule(x, "-(8>p)");
        Sentences.is("-(8 > 7) is -1", x.picks(0), -2);
        Feasts.rule(x, "-(8=p)");
        Sentences.is("-(8 = 7) is 0", x.picks(0), 1);
    }

    private static void sums() {
        valueIs("9-5-3", 1);
        valueIs("9-5+3", 7);
        valueIs("9-(5-3)", 7);
        valueIs("2+3*4", 14);
        valueIs("2*3+4", 10);
        valueIs("9-8/2-1", 4);
    }

    private static void productsAndQuotients() {
        valueIs("7/2*2", 6);
        valueIs("9/3/3", 1);
        valueIs("2*7/4", 3);
        valueIs("9/(3/3)", 9);
        valueIs("5/0", 0);
        valueIs("0/0", 0);
        valueIs("-5/0", 0);
        valueIs("5/(p-7)", 0);
        valueIs("5/0*3+2", 2);
        valueIs("7/2", 3);
        valueIs("-7/2", -3);
        valueIs("7/-2", -3);
        valueIs("-7/-2", 3);
        valueIs("1/2", 0);
        valueIs("-1/2", 0);
    }

    private static void minusAhead() {
        valueIs("-3", -3);
        valueIs("--3", 3);
        valueIs("---3", -3);
        valueIs("1--3", 4);
        valueIs("1---3", -2);
        valueIs("2*-3", -6);
        valueIs("-2*3+7", 1);
        valueIs("-(2+3)", -5);
        valueIs("--(-p)", -7);
        ruleIs("-".repeat(39) + "1", 0);
        ruleIs("-", -2);
        ruleIs("1-", -3);
        EachBringsAnother x = Feasts.feastBy("-".repeat(39) + "1", "1!;7a");
        Sentences.is("39 of them", x.picks(0), -2);
        Feasts.rule(x, "-".repeat(38) + "1");
        Sentences.is("38 of them", x.picks(0), 1);
    }

    private static void digits() {
        valueIs("5", 5);
        valueIs("42", 42);
        valueIs("999", 999);
        valueIs("007", 7);
        valueIs("000", 0);
        valueIs("999-99-9", 891);
        ruleIs("1000", -4);
        ruleIs("0001", -4);
        ruleIs("1+1000", -6);
        ruleIs("(1)000", -4);
        ruleIs("12p", -3);
        ruleIs("p12", -2);
        EachBringsAnother x = Feasts.feastBy("0-1+0", "1!;7a");
        x.law(0, 3);
        Feasts.pass(x, 2);
        Sentences.is("0 is a NUMBER in later WEEKS, too", x.picks(0), -2);
        Feasts.rule(x, "0*1");
        Sentences.is("0 * 1", x.picks(0), 1);
    }

    private static void inOneAnother() {
        ruleIs("((((p))))", 0);
        ruleIs("(((((p)))))", -5);
        ruleIs("((((p)+(i))))", 0);
        ruleIs("((((p+(i)))))", -7);
        ruleIs("((((p))))+((((i))))", 0);
        ruleIs("((((p)))+(((i))))", 0);
        ruleIs("((((p))))+(((((i)))))", -15);
        ruleIs("()", -2);
        ruleIs("p)", -2);
        ruleIs("((p)", -5);
        EachBringsAnother x = Feasts.feastBy("((((p-8)+1)*2)-1)", "1!;7a");
        Sentences.is("((7 - 8 + 1) * 2) - 1", x.picks(0), -2);
        Feasts.rule(x, "((((p-8)+1)*2)-0)");
        Sentences.is("((7 - 8 + 1) * 2) - 0", x.picks(0), 1);
    }

    private static void numbersAndPrices() {
        valueIs("i", 1);
        valueIs("p", 7);
        EachBringsAnother x = Feasts.feastBy("-(i-9)*(i-9)", "0;0;0;0;0;0;0;0;0!;9i");
        Sentences.is("the tenth's number is 9", x.picks(8), 9);
        Feasts.rule(x, "p-9");
        Sentences.is("its PRICE is 9", x.picks(8), 9);
        Feasts.rule(x, "p-10");
        Sentences.is("and no more", x.picks(8), -2);
    }

    private static void whomAStrangerKnows() {
        EachBringsAnother x = Feasts.feast("0!;0!?;0a;0a?;0;0abcde", 1, 10);
        Feasts.week(x, "a>c");
        Sentences.is("b is OUT", x.count(4), 2);
        isOf(x, "k", 5);
        isOf(x, "g", 2);
        isOf(x, "s", 2);
        x.hide(0, true);
        isOf(x, "g", 2);
        x.hide(5, true);
        Sentences.is("HIDDEN itself", x.picks(0), -2);
        EachBringsAnother none = Feasts.feast("0!;0a");
        Feasts.rule(none, "s");
        Sentences.is("none", none.picks(0), 1);
        Feasts.rule(none, "s-1");
        Sentences.is("not itself", none.picks(0), -2);
    }

    /** What one letter is of the last of six, whom a would bring. */
    private static void isOf(EachBringsAnother x, String letter, int due) {
        Feasts.rule(x, letter + "-" + due);
        Sentences.is(letter + " is " + due + " at least", x.picks(0), 5);
        Feasts.rule(x, due + "-" + letter);
        Sentences.is(letter + " is " + due + " at most", x.picks(0), 5);
    }

    private static void whoWouldBring() {
        EachBringsAnother x = Feasts.feast("0!;0!;0ab", 3, 10);
        Feasts.rule(x, "n-1");
        Sentences.is("n of the first is 0", x.picks(0), -2);
        Sentences.is("n of the second is 1", x.picks(1), 2);
        Feasts.rule(x, "l-2");
        Feasts.pass(x, 1);
        Sentences.is("LATE 1", x.picks(0), -2);
        Feasts.pass(x, 1);
        Sentences.is("LATE 2", x.picks(0), 2);
        Feasts.rule(x, "w-3");
        Sentences.is("2 WEEKS", x.picks(0), -2);
        Feasts.rule(x, "w-2");
        Sentences.is("2 WEEKS", x.picks(0), 2);
        EachBringsAnother last = Feasts.feast("0");
        Feasts.pass(last, 59);
        Feasts.land(last, "0a!");
        Feasts.rule(last, "w-59");
        Sentences.is("59 WEEKS ahead of the last", last.picks(1), 0);
        Feasts.rule(last, "w-60");
        Sentences.is("and no more", last.picks(1), -2);
    }

    private static void asInts() {
        valueIs("256*256*256*256", 0);
        valueIs("256*256*256*127>0", 1);
        valueIs("256*256*256*128<0", 1);
        valueIs("256*256*256*128-1>0", 1);
        valueIs("256*256*256*128-1+1<0", 1);
        valueIs("-(256*256*256*128)<0", 1);
        valueIs("256*256*256*128/-1<0", 1);
        valueIs("256*256*256*128*-1<0", 1);
        valueIs("256*256*256*255/256/256/256", -1);
    }

    private static void nobodyAheadBrings() {
        EachBringsAnother x = Feasts.feastBy("p", "0!;0!;0!;5abc;4ac?;3b;6");
        Sentences.is("a", x.picks(0), 3);
        Sentences.is("b, whom nobody ahead brings", x.picks(1), 5);
        Sentences.is("c, who KNOWS none more", x.picks(2), -2);
        Sentences.is("goes(1)", x.goes(1), 1);
        Sentences.rowIs(x, 0b101011, 8);
        Sentences.is("BROUGHT", x.of(3, 5), 0);
        Sentences.is("BROUGHT", x.of(5, 5), 1);
    }

    private static void zeroAtLeast() {
        EachBringsAnother x = Feasts.feastBy("p", "0!;3a;5a;5a;4a");
        Sentences.is("of equal ones the first", x.picks(0), 2);
        Feasts.rule(x, "p-5");
        Sentences.is("0 is enough", x.picks(0), 2);
        Feasts.rule(x, "p-6");
        Sentences.is("-1 is not", x.picks(0), -2);
        Feasts.rule(x, "-p");
        Sentences.is("-3 is not", x.picks(0), -2);
        Feasts.rule(x, "3-p");
        Sentences.is("0 of one alone", x.picks(0), 1);
        Feasts.rule(x, "-1");
        Sentences.is("goes(1)", x.goes(1), 1);
        Sentences.rowIs(x, 0, 0);
    }

    /** Two GUESTS who would bring one STRANGER each. */
    private static int guestsThen(int grace, int seats) {
        EachBringsAnother x = Feasts.feast("0!;0!;0ab;0b", grace, seats);
        x.goes(1);
        return x.count(2);
    }

    private static void seatsAsFarAsIsKnown() {
        Sentences.is("one SEAT: nobody", guestsThen(1, 1), 0);
        Sentences.is("two SEATS: a and c, as b would be OUT", guestsThen(1, 2), 0b0101);
        Sentences.is("three SEATS", guestsThen(1, 3), 0b0101);
        Sentences.is("four SEATS", guestsThen(1, 4), 0b1111);
        Sentences.is("one SEAT, b would stay: nobody", guestsThen(2, 1), 0b0011);
        Sentences.is("two SEATS, b would stay: nobody", guestsThen(2, 2), 0b0011);
        Sentences.is("three SEATS, b would stay", guestsThen(2, 3), 0b0111);
        Sentences.is("four SEATS", guestsThen(2, 4), 0b1111);
        EachBringsAnother x = Feasts.feast("0!;0!;0b", 2, 2);
        Sentences.is("a would stay, so no SEAT for b's", x.picks(1), -2);
        x.law(1, 3);
        Sentences.is("a SEAT", x.picks(1), 2);
        EachBringsAnother between = Feasts.feast("0!;0a;0!", 2, 2);
        Sentences.is("c would stay, so no SEAT for b", between.picks(0), -2);
        between.law(1, 3);
        Sentences.is("a SEAT for b", between.picks(0), 1);
    }

    private static void sixtyWeeks() {
        EachBringsAnother x = Feasts.feast("0;0");
        Sentences.is("at first", x.count(1), 0);
        Feasts.pass(x, 59);
        Feasts.land(x, "0!");
        x.law(0, 3);
        Sentences.is("59", x.count(1), 59);
        Sentences.is("the last one", x.goes(2), 1);
        Sentences.is("60", x.count(1), 60);
        Sentences.is("no more do", x.goes(1), 0);
        Sentences.is("no more do", Feasts.week(x, ""), -300);
        Sentences.is("60", x.count(1), 60);
        Sentences.is("c is LATE once", x.of(2, 4), 1);
    }

    private static void behindWeek0() {
        EachBringsAnother x = Feasts.feast("0!;0a;0b!", 2, 10);
        Sentences.is("as told", x.was(0), 0b101);
        Sentences.is("nobody BROUGHT those told", x.of(2, 5), -1);
        Sentences.is("GUESTS behind WEEK 0", x.of(2, 6), 0);
        Feasts.week(x, "a>b");
        Sentences.is("still as told", x.was(0), 0b101);
        Sentences.is("behind WEEK 1", x.was(1), 0b111);
        Sentences.is("BROUGHT", x.of(1, 5), 0);
        Feasts.pass(x, 2);
        Sentences.is("behind WEEK 2", x.was(2), 0b011);
        Sentences.is("behind WEEK 3", x.was(3), 0);
        Sentences.is("BROUGHT is still noted", x.of(1, 5), 0);
    }

    private static void fromTheFirstOn() {
        EachBringsAnother x = Feasts.feast("0!;0!;0ab;0a;0b");
        Sentences.is("pairs", x.pairs(), 2);
        Sentences.rowIs(x, 2, 14);
        EachBringsAnother y = Feasts.feast("0!;0!;0a;0b;0c;0d");
        Sentences.is("2 is less than 2, 13 and than 13", y.begin(), 1);
        Sentences.rowIs(y, 2);
    }

    private static void pairsAsNumbers() {
        EachBringsAnother x = Feasts.feast("0!;0a");
        Sentences.is("pairs", x.pairs(), 1);
        Sentences.rowIs(x, 1);
        EachBringsAnother y = Feasts.feast("0;0;0;0;0;0;0;0;0;0ai!");
        Sentences.is("begin", y.begin(), 1);
        Sentences.rowIs(y, 90);
        y.hide(0, true);
        Sentences.is("begin", y.begin(), 1);
        Sentences.rowIs(y, 98);
    }

    private static void fromNowOn() {
        EachBringsAnother x = Feasts.feast(Feasts.FIVE);
        Sentences.is("last", x.last(), 4);
        Feasts.week(x, "a>b");
        Sentences.is("behind a WEEK", x.last(), 3);
        Sentences.is("it is a GUEST just now", x.soonest(1), 0);
        Sentences.is("what was paid does not count", x.cheap(0), 0);
        x.law(0, 2);
        Sentences.is("GRACE as it is", x.last(), 7);
        x.law(1, 1);
        Sentences.is("SEATS as they are", x.last(), 1);
        Sentences.is("no WEEK went by", x.count(1), 1);
        behindEachChange();
    }

    private static void behindEachChange() {
        EachBringsAnother x = Feasts.feast("0!;0a");
        Sentences.is("last", x.last(), 1);
        x.hide(1, true);
        Sentences.is("HIDDEN", x.last(), 0);
        x.hide(1, false);
        Sentences.is("not HIDDEN", x.last(), 1);
        x.meet(0, 1, false);
        Sentences.is("not KNOWN", x.last(), 0);
        x.meet(1, 0, true);
        Sentences.is("KNOWN", x.last(), 1);
        x.baby(2);
        Sentences.is("a baby that b KNOWS", x.last(), 2);
        Feasts.land(x, "0c");
        Sentences.is("one that the baby KNOWS", x.last(), 3);
        x.keep(0);
        x.goes(1);
        Sentences.is("behind a WEEK by THE RULE", x.last(), 2);
        x.undo();
        Sentences.is("undone", x.last(), 3);
        Feasts.pass(x, 1);
        Sentences.is("behind a WEEK", x.last(), -2);
        x.again(0);
        Sentences.is("as it was kept", x.last(), 3);
        Sentences.is("paid", x.cheap(3), 0);
        x.sheet(2, 10, 2, 0);
        Sentences.is("PRICES as they are", x.cheap(3), 6);
    }

    private static void moreThan3000States() {
        EachBringsAnother x = Feasts.just3000States();
        Sentences.is("3000", x.states(), 3000);
        Sentences.is("last", x.last() > 0, true);
        EachBringsAnother y = Feasts.just3001States();
        Sentences.is("3001", y.states(), -3);
        Sentences.is("last", y.last(), -3);
        Sentences.is("ahead of -2", y.stays(1), -3);
        Sentences.is("ahead of -2", y.fewest(60), -3);
        y.law(1, 1);
        Sentences.is("fewer by THE LAW", y.states(), 3);
        y.law(1, 3);
        Sentences.is("3001 again", y.states(), -3);
    }
}
