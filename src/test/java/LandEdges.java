/** Edges that promises 1 to 11 name. */
final class LandEdges {
    private LandEdges() {
    }

    static void all() {
        texts();
        landsAndRules();
        ofOneAndTheLaw();
        meetHideBaby();
        sheets();
    }

    private static void texts() {
        Sentences.underPromise(1);
        Sentences.holds("Nobody.", LandEdges::nobody);
        Sentences.underPromise(2);
        Sentences.holds("Four signs come behind THE TEXT, of v the highest byte first", LandEdges::highestByteFirst);
        Sentences.holds("how many it has", LandEdges::howManySigns);
        Sentences.holds("Refused: there would be more than 80.", LandEdges::moreThan80Signs);
        Sentences.underPromise(3);
        Sentences.holds("THE TEXT has its first n signs alone: true", LandEdges::firstSignsAlone);
        Sentences.holds("false if it has not so many", LandEdges::notSoManySigns);
        Sentences.holds("or n is below 0", LandEdges::signsBelow0);
    }

    private static void landsAndRules() {
        Sentences.underPromise(4);
        Sentences.holds("(an empty one: nothing)", LandEdges::emptyLand);
        Sentences.holds("how many LINES", LandEdges::howManyLines);
        Sentences.holds("-1 - p: the sign at p can't stand there", LandEdges::wrongSignOfALand);
        Sentences.holds("its end, if it ends too early", LandEdges::landEndsTooEarly);
        Sentences.holds("76, if it has more and the first 76 could go on or end", LandEdges::moreThan76Signs);
        Sentences.holds("a letter that does not rise, of none such: at it", LandEdges::wrongLetters);
        Sentences.holds("the first sign of a LINE for which there is no room", LandEdges::noRoom);
        Sentences.holds("Nothing of it comes, if a LINE can't.", LandEdges::nothingOfALandComes);
        Sentences.underPromise(5);
        Sentences.holds("(an empty one: none): 0", LandEdges::emptyRule);
        Sentences.holds("-1 - p: as land() (40 signs).", LandEdges::wrongRule);
    }

    private static void ofOneAndTheLaw() {
        Sentences.underPromise(6);
        Sentences.holds("1: whom it KNOWS (bits), 2: 1 if HIDDEN", LandEdges::knowsAndHidden);
        Sentences.holds("3: 0 a STRANGER, 1 a GUEST, 2 OUT, 4: LATE (NONE: no GUEST)", LandEdges::lateOfNoGuest);
        Sentences.holds("5: who BROUGHT it (NONE)", LandEdges::broughtByNobody);
        Sentences.holds("6: the WEEK behind which it was a GUEST first (NONE: never yet)", LandEdges::neverYetAGuest);
        Sentences.holds("NoSuchElementException: none such", LandEdges::ofNoneSuch);
        Sentences.holds("another what.", LandEdges::ofAnotherWhat);
        Sentences.underPromise(7);
        Sentences.holds("what becomes v: what it was.", LandEdges::whatItWas);
        Sentences.holds("Refused: others.", LandEdges::otherLaws);
    }

    private static void meetHideBaby() {
        Sentences.underPromise(8);
        Sentences.holds("Two unlike ones KNOW each other, or not: true.", LandEdges::knowOrNot);
        Sentences.holds("Refused: others.", LandEdges::otherMeetings);
        Sentences.underPromise(9);
        Sentences.holds("One is HIDDEN, or not: true.", LandEdges::hiddenOrNot);
        Sentences.holds("Refused: none such.", LandEdges::hideNoneSuch);
        Sentences.underPromise(10);
        Sentences.holds("a STRANGER of PRICE 0, whom those told as bits KNOW: its number", LandEdges::babies);
        Sentences.holds("Refused: bits of none such", LandEdges::babyOfNoneSuch);
        Sentences.holds(", 10.", LandEdges::babyOfTen);
    }

    private static void sheets() {
        Sentences.underPromise(11);
        Sentences.holds("PRICES of PEOPLE 0, 1, .., as a sheet tells them", LandEdges::sheetOfAll);
        Sentences.holds("of n entries f, f + step, ..", LandEdges::entriesWrap);
        Sentences.holds("of bytes, shorts the lowest bits, with their sign", LandEdges::bytesAndShorts);
        Sentences.holds("put to 0 .. 9", LandEdges::putTo0To9);
        Sentences.holds("those behind it have 0", LandEdges::thoseBehindHave0);
        Sentences.holds("the sum of all that there are (entries beyond them are left aside)", LandEdges::entriesBeyond);
        Sentences.holds("-2: n below 0 (of kinds 0 .. 2; nothing changes)", LandEdges::entriesBelow0);
        Sentences.holds("-3: missing (all 0)", LandEdges::missingSheet);
        Sentences.holds("NONE: another kind", LandEdges::anotherKind);
        Sentences.holds("n above 10 (these first)", LandEdges::entriesAbove10);
    }

    private static void nobody() {
        EachBringsAnother x = new EachBringsAnother();
        for (int what = 0; what <= 9; what++) {
            Sentences.is("count(" + what + ")", x.count(what), 0);
        }
        Sentences.isThrown("of(0, 0)", () -> x.of(0, 0));
        Sentences.isThrown("row(0)", () -> x.row(0));
        Sentences.is("undo", x.undo(), -1);
        Sentences.is("again(0)", x.again(0), false);
        Sentences.is("again(1)", x.again(1), false);
        Sentences.is("was(0)", x.was(0), 0);
        Sentences.is("was(1)", x.was(1), -1);
        Sentences.is("can", x.can(), 0);
        Sentences.rowIs(x, 0);
        Sentences.is("bars", x.bars(), 0);
        Sentences.rowIs(x, 0, 0);
        Sentences.is("goes(60)", x.goes(60), 0);
        Sentences.rowIs(x, 0, 0);
        Sentences.is("pairs", x.pairs(), 0);
        Sentences.rowIs(x);
        Sentences.is("father", x.father(), -2);
        Sentences.is("bound", x.bound(), -2);
        Sentences.is("needed", x.needed(), -2);
        Sentences.is("never", x.never(), 0);
        Sentences.is("worth(0)", x.worth(0), -1);
        Sentences.is("an empty week", x.week(), 0);
        Sentences.is("count(1)", x.count(1), 1);
        Sentences.is("undo", x.undo(), 0);
    }

    private static void highestByteFirst() {
        EachBringsAnother x = new EachBringsAnother();
        x.sign('1' << 24 | '!' << 16 | ';' << 8 | '2');
        x.sign('a' << 24 | '?' << 16 | ';' << 8 | '3');
        Sentences.is("land", x.land(), 3);
        Sentences.is("1!", x.of(0, 0) * 10 + x.of(0, 3), 11);
        Sentences.is("2a?", x.of(1, 0) * 10 + x.of(1, 2), 21);
        Sentences.is("3", x.of(2, 0), 3);
        x.sign(0xB1000000);
        x.end(1);
        Sentences.is("a byte of eight bits", x.land(), -1);
        x.sign(0x31FFFFFF);
        x.end(1);
        Sentences.is("bytes below 0 behind it", x.land(), 1);
        x.sign(0xFFFFFF31);
        Sentences.is("and ahead of it", x.land(), -1);
    }

    private static void howManySigns() {
        EachBringsAnother x = new EachBringsAnother();
        Sentences.is("the first four", x.sign(0), 4);
        Sentences.is("behind four", x.sign(Integer.MIN_VALUE), 8);
        x.end(5);
        Sentences.is("behind five", x.sign(Integer.MAX_VALUE), 9);
        x.end(0);
        Sentences.is("behind none", x.sign(-1), 4);
    }

    private static void moreThan80Signs() {
        EachBringsAnother x = new EachBringsAnother();
        for (int k = 1; k <= 20; k++) {
            Sentences.is("sign", x.sign(0), 4 * k);
        }
        Sentences.is("84", x.sign(0), -1);
        for (int n = 79; n >= 77; n--) {
            Sentences.is("end", x.end(n), true);
            Sentences.is((n + 4) + " signs", x.sign(0), -1);
            Sentences.is("count(8)", x.count(8), n);
        }
        Sentences.is("end", x.end(76), true);
        Sentences.is("80 signs", x.sign(0), 80);
    }

    private static void firstSignsAlone() {
        EachBringsAnother x = new EachBringsAnother();
        Sentences.is("none of none", x.end(0), true);
        x.sign('1' << 24 | ';' << 16 | '2' << 8 | 'x');
        Sentences.is("all", x.end(4), true);
        Sentences.is("count(8)", x.count(8), 4);
        Sentences.is("three", x.end(3), true);
        Sentences.is("land", x.land(), 2);
        x.sign('1' << 24);
        Sentences.is("none", x.end(0), true);
        Sentences.is("an empty land", x.land(), 0);
        Feasts.tell(x, "7".repeat(80));
        Sentences.is("all of 80", x.end(80), true);
        Sentences.is("79", x.end(79), true);
        Sentences.is("count(8)", x.count(8), 79);
    }

    private static void notSoManySigns() {
        EachBringsAnother x = new EachBringsAnother();
        Sentences.is("one of none", x.end(1), false);
        x.sign(0);
        Sentences.is("five of four", x.end(5), false);
        Sentences.is("80 of four", x.end(80), false);
        Sentences.is("MAX of four", x.end(Integer.MAX_VALUE), false);
        Sentences.is("count(8)", x.count(8), 4);
        x.end(2);
        Sentences.is("three of two", x.end(3), false);
        Feasts.tell(x, "7".repeat(80));
        Sentences.is("81 of 80", x.end(81), false);
        Sentences.is("count(8)", x.count(8), 80);
    }

    private static void signsBelow0() {
        EachBringsAnother x = new EachBringsAnother();
        Sentences.is("-1 of none", x.end(-1), false);
        x.sign(0);
        Sentences.is("-1", x.end(-1), false);
        Sentences.is("MIN", x.end(Integer.MIN_VALUE), false);
        Sentences.is("count(8)", x.count(8), 4);
    }

    private static void emptyLand() {
        EachBringsAnother x = new EachBringsAnother();
        Sentences.is("of nobody", x.land(), 0);
        Sentences.is("nobody", x.count(0), 0);
        EachBringsAnother full = Feasts.feast(Feasts.CHAIN);
        String before = Feasts.picture(full);
        Sentences.is("without room", full.land(), 0);
        Sentences.is("all", Feasts.picture(full), before);
    }

    private static void howManyLines() {
        EachBringsAnother x = new EachBringsAnother();
        Sentences.is("one", Feasts.land(x, "5"), 1);
        Sentences.is("nine", Feasts.land(x, "1;2;3;4;5;6;7;8;9"), 9);
        Sentences.is("ten at once", Feasts.land(new EachBringsAnother(), "0;1;2;3;4;5;6;7;8;9"), 10);
    }

    private static void landIs(String text, int due) {
        EachBringsAnother x = new EachBringsAnother();
        Sentences.is("land " + text, Feasts.land(x, text), due);
    }

    private static void wrongSignOfALand() {
        landIs("x", -1);
        landIs("!", -1);
        landIs("?", -1);
        landIs(";", -1);
        landIs("a", -1);
        landIs(" 1", -1);
        landIs("1;;1", -3);
        landIs("1 ;1", -2);
        landIs("1,1", -2);
        landIs("12", -2);
        landIs("1;2A", -4);
        landIs("1;2a2", -5);
        landIs("1!a", -3);
        landIs("1?;x", -4);
        landIs("1\0", -2);
        landIs("\u00b1", -1);
        landIs("1;2\u00e1", -4);
    }

    private static void landEndsTooEarly() {
        landIs("1;", -3);
        landIs("1!?;", -5);
        landIs("1;2a;", -6);
        landIs("1;1;1;1;1;1;1;1;1;", -19);
    }

    private static void moreThan76Signs() {
        String all = TermsEdges.LAND_77 + "??";
        landIs(all.substring(0, 76), 10);
        for (int n = 77; n <= 80; n++) {
            landIs((all + "?").substring(0, n), -77);
        }
        landIs(all.substring(0, 76) + "x", -77);
        landIs(all.substring(0, 76) + "a", -77);
        landIs("1a" + all.substring(2, 79), -2);
        landIs(all.substring(0, 75) + "xx", -76);
        landIs(all.substring(0, 75) + ";xxx", -77);
    }

    private static void wrongLetters() {
        landIs("1;1;1ba", -7);
        landIs("1;1;1aa", -7);
        landIs("1;1;1abb", -8);
        landIs("1;1;1abc", -8);
        landIs("1a", -2);
        landIs("1;2b", -4);
        landIs("1;2j", -4);
        landIs("1;2k", -4);
        landIs("1;2z", -4);
        landIs("0;0;0;0;0;0;0;0;0;0abcdefghij", -29);
        landIs("0;0;0;0;0;0;0;0;0;0abcdefghi", 10);
        EachBringsAnother x = Feasts.feast("1;2");
        Sentences.is("of those there are", Feasts.land(x, "3ab;4abc"), 2);
        Sentences.is("its own", Feasts.land(x, "3e"), -2);
    }

    private static void noRoom() {
        EachBringsAnother x = Feasts.feast("1;1;1;1;1;1;1;1");
        Sentences.is("three for two", Feasts.land(x, "1a;1b;1c"), -7);
        Sentences.is("wrong behind there", Feasts.land(x, "1a;1b;x"), -7);
        Sentences.is("nothing behind there", Feasts.land(x, "1a;1b;"), -7);
        Sentences.is("wrong ahead of there", Feasts.land(x, "1a;1k;1c"), -5);
        Sentences.is("nobody came", x.count(0), 8);
        Sentences.is("two for two", Feasts.land(x, "1a;1b"), 2);
        Sentences.is("one for none", Feasts.land(x, "1"), -1);
        Sentences.is("a wrong one for none", Feasts.land(x, "!"), -1);
        landIs("1;1;1;1;1;1;1;1;1;1;1", -21);
    }

    private static void nothingOfALandComes() {
        EachBringsAnother x = Feasts.feast("1;2a", 2, 9);
        Feasts.pass(x, 1);
        String before = Feasts.picture(x);
        for (String text : new String[] {"3ab!?;4a;5x", "3ab!;", "3ab!;4!;5?;6;7;8;9!;1;2", "3ab!x", "3?!"}) {
            Sentences.is("land " + text, Feasts.land(x, text) < 0, true);
            Sentences.is("all behind " + text, Feasts.picture(x), before);
        }
        Sentences.is("another one", Feasts.land(x, "3;4"), 2);
        Sentences.is("KNOWS nobody", x.of(2, 1) + x.of(3, 1), 0);
        Sentences.is("is no GUEST", x.count(2), 0);
        Sentences.is("is not HIDDEN", x.count(9), 0);
    }

    private static void emptyRule() {
        EachBringsAnother x = Feasts.feastBy("-1", "0!;0a");
        Sentences.is("picks(0)", x.picks(0), -2);
        Sentences.is("an empty one", x.rule(), 0);
        Sentences.is("0 of all", x.picks(0), 1);
        Sentences.is("once more", x.rule(), 0);
        Sentences.is("0 of all", x.picks(0), 1);
        EachBringsAnother y = Feasts.feastBy("p", "0!;1a;2a");
        Sentences.is("by PRICE", y.picks(0), 2);
        Sentences.is("an empty one", y.rule(), 0);
        Sentences.is("the first", y.picks(0), 1);
    }

    private static void ruleIs(String text, int due) {
        EachBringsAnother x = Feasts.feastBy("p-2", "0!;1a;2a");
        Sentences.is("rule " + text, Feasts.rule(x, text), due);
        Sentences.is("THE RULE behind " + text, x.picks(0), 2);
        Sentences.is("another RULE behind " + text, Feasts.rule(x, "((((2-p))))<1"), 0);
        Sentences.is("by that RULE", x.picks(0), 2);
        Sentences.is("one more", Feasts.rule(x, "2-((((p))))"), 0);
        Sentences.is("by that RULE", x.picks(0), 1);
    }

    private static void wrongRule() {
        String sum = "p-2+" + "0+".repeat(18);
        Sentences.is("of 40 signs", sum.length(), 40);
        ruleIs(sum, -41);
        ruleIs(sum + "0", -41);
        ruleIs(sum.substring(0, 39), 0);
        ruleIs(sum.substring(0, 39) + "0", 0);
        ruleIs(sum.substring(0, 39) + "00", -41);
        ruleIs(sum.substring(0, 39) + "+1", -41);
        ruleIs(sum.substring(0, 38) + "10", 0);
        ruleIs(sum.substring(0, 38) + "100", -41);
        ruleIs(sum.substring(0, 36) + "1000", -40);
        ruleIs(sum.substring(0, 37) + "1xx", -39);
        ruleIs(sum.substring(0, 38) + "xxx", -39);
        ruleIs(sum.substring(0, 39) + "x", -40);
        ruleIs(sum.substring(0, 39) + "xxxx", -40);
        ruleIs("-".repeat(80), -41);
        ruleIs("1" + "x".repeat(79), -2);
        ruleIs("x", -1);
        ruleIs("p<i+", -5);
        ruleIs("(p<i+(2=", -9);
        ruleIs("p<i<2", -4);
        ruleIs("---", -4);
        ruleIs("((((", -5);
        ruleIs("p+", -3);
        ruleIs("(p", -3);
        ruleIs("(", -2);
        ruleIs("p)", -2);
        ruleIs("P", -1);
        ruleIs("p p", -2);
        ruleIs("pi", -2);
        ruleIs("p+*2", -3);
        ruleIs("*p", -1);
        ruleIs("p\0", -2);
        ruleIs("\u00f0", -1);
    }

    private static void knowsAndHidden() {
        EachBringsAnother x = Feasts.feast("0;0;0;0;0;0;0;0;0;0abcdefghi?");
        Sentences.is("all others", x.of(9, 1), 511);
        Sentences.is("the last", x.of(0, 1), 512);
        Sentences.is("HIDDEN", x.of(9, 2), 1);
        Sentences.is("not HIDDEN", x.of(8, 2), 0);
        x.meet(9, 0, false);
        Sentences.is("nobody", x.of(0, 1), 0);
    }

    private static void lateOfNoGuest() {
        EachBringsAnother x = Feasts.feast("0!;0;0!?", 2, 10);
        Sentences.is("LATE of a GUEST", x.of(0, 4), 0);
        Sentences.is("LATE of a STRANGER", x.of(1, 4), -1);
        Sentences.is("LATE of a HIDDEN GUEST", x.of(2, 4), 0);
        Feasts.pass(x, 1);
        Sentences.is("LATE of a GUEST", x.of(0, 4), 1);
        Feasts.pass(x, 1);
        Sentences.is("LATE of one who is OUT", x.of(0, 4), -1);
        Sentences.is("of(0, 3)", x.of(0, 3), 2);
        Sentences.is("of(1, 3)", x.of(1, 3), 0);
    }

    private static void broughtByNobody() {
        EachBringsAnother x = Feasts.feast("0!;0a;0");
        Sentences.is("a GUEST told", x.of(0, 5), -1);
        Sentences.is("a STRANGER", x.of(1, 5), -1);
        Feasts.week(x, "a>b");
        Sentences.is("by the first", x.of(1, 5), 0);
        Sentences.is("who brought", x.of(0, 5), -1);
        Feasts.pass(x, 1);
        Sentences.is("OUT", x.of(1, 5), 0);
        x.undo();
        x.undo();
        Sentences.is("undone", x.of(1, 5), -1);
        x.baby(1);
        Sentences.is("a baby", x.of(3, 5), -1);
    }

    private static void neverYetAGuest() {
        EachBringsAnother x = Feasts.feast("0!;0a;0b", 3, 10);
        Sentences.is("behind WEEK 0", x.of(0, 6), 0);
        Sentences.is("never yet", x.of(1, 6), -1);
        Feasts.week(x, "a>b");
        Feasts.week(x, "b>c");
        Sentences.is("behind WEEK 0 first", x.of(0, 6), 0);
        Sentences.is("behind WEEK 1 first", x.of(1, 6), 1);
        Sentences.is("behind WEEK 2 first", x.of(2, 6), 2);
        Feasts.pass(x, 3);
        Sentences.is("OUT", x.of(2, 3), 2);
        Sentences.is("still behind WEEK 2", x.of(2, 6), 2);
        for (int k = 0; k < 4; k++) {
            x.undo();
        }
        Sentences.is("never yet", x.of(2, 6), -1);
        EachBringsAnother last = Feasts.feast("0");
        Feasts.pass(last, 59);
        Feasts.land(last, "0!;0b");
        Feasts.week(last, "b>c");
        Sentences.is("behind WEEK 60", last.of(2, 6), 60);
    }

    private static void ofNoneSuch() {
        EachBringsAnother x = Feasts.feast("1;2");
        Sentences.is("the first", x.of(0, 0), 1);
        Sentences.is("the last", x.of(1, 0), 2);
        for (int p : new int[] {2, -1, 10, Integer.MAX_VALUE, Integer.MIN_VALUE}) {
            for (int what = -1; what <= 7; what++) {
                int of = what;
                Sentences.isThrown("of(" + p + ", " + of + ")", () -> x.of(p, of));
            }
        }
        EachBringsAnother full = Feasts.feast(Feasts.CHAIN);
        Sentences.is("the tenth", full.of(9, 1), 256);
        Sentences.isThrown("of(10, 0)", () -> full.of(10, 0));
    }

    private static void ofAnotherWhat() {
        EachBringsAnother x = Feasts.feast("1;2");
        Sentences.is("the first what", x.of(0, 0), 1);
        Sentences.is("the last what", x.of(0, 6), -1);
        for (int what : new int[] {7, -1, Integer.MAX_VALUE, Integer.MIN_VALUE}) {
            Sentences.isThrown("of(0, " + what + ")", () -> x.of(0, what));
        }
    }

    private static void whatItWas() {
        EachBringsAnother x = new EachBringsAnother();
        int grace = 1;
        for (int v : new int[] {1, 2, 3, 1}) {
            Sentences.is("law(0, " + v + ")", x.law(0, v), grace);
            grace = v;
        }
        int seats = 10;
        for (int v = 1; v <= 10; v++) {
            Sentences.is("law(1, " + v + ")", x.law(1, v), seats);
            seats = v;
        }
        Sentences.is("GRACE is left alone", x.law(0, 2), 1);
        Sentences.is("SEATS are left alone", x.law(1, 10), 10);
    }

    private static void otherLaws() {
        EachBringsAnother x = new EachBringsAnother();
        x.law(0, 2);
        x.law(1, 9);
        for (int v : new int[] {0, 4, -1, 10, Integer.MAX_VALUE, Integer.MIN_VALUE}) {
            Sentences.is("law(0, " + v + ")", x.law(0, v), -1);
        }
        for (int v : new int[] {0, 11, -1, Integer.MAX_VALUE, Integer.MIN_VALUE}) {
            Sentences.is("law(1, " + v + ")", x.law(1, v), -1);
        }
        for (int what : new int[] {-1, 2, Integer.MAX_VALUE, Integer.MIN_VALUE}) {
            Sentences.is("law(" + what + ", 1)", x.law(what, 1), -1);
        }
        Sentences.is("GRACE", x.law(0, 1), 2);
        Sentences.is("SEATS", x.law(1, 1), 9);
    }

    private static void knowOrNot() {
        EachBringsAnother x = Feasts.feast(Feasts.CHAIN);
        Sentences.is("the first and the last", x.meet(0, 9, true), true);
        Sentences.is("once more", x.meet(9, 0, true), true);
        Sentences.is("of(0, 1)", x.of(0, 1), 512 | 2);
        Sentences.is("of(9, 1)", x.of(9, 1), 256 | 1);
        Sentences.is("not", x.meet(9, 0, false), true);
        Sentences.is("not, once more", x.meet(0, 9, false), true);
        Sentences.is("of(0, 1)", x.of(0, 1), 2);
        Sentences.is("of(9, 1)", x.of(9, 1), 256);
    }

    private static void otherMeetings() {
        EachBringsAnother x = Feasts.feast("1;2");
        int[][] others = {{0, 0}, {1, 1}, {0, 2}, {2, 0}, {2, 2}, {-1, 0}, {0, -1}, {0, 10}, {0, 32}, {0, Integer.MIN_VALUE}};
        for (int[] o : others) {
            Sentences.is("meet(" + o[0] + ", " + o[1] + ", true)", x.meet(o[0], o[1], true), false);
            Sentences.is("meet(" + o[0] + ", " + o[1] + ", false)", x.meet(o[0], o[1], false), false);
        }
        Sentences.is("nobody KNOWS anybody", x.of(0, 1) + x.of(1, 1), 0);
        EachBringsAnother full = Feasts.feast(Feasts.CHAIN);
        Sentences.is("meet(0, 10, true)", full.meet(0, 10, true), false);
        Sentences.is("of(0, 1)", full.of(0, 1), 2);
    }

    private static void hiddenOrNot() {
        EachBringsAnother x = Feasts.feast("0!;0a;0!;0;0;0;0;0;0;0");
        for (int p : new int[] {0, 1, 2, 9}) {
            Sentences.is("hide(" + p + ", true)", x.hide(p, true), true);
            Sentences.is("once more", x.hide(p, true), true);
            Sentences.is("of(" + p + ", 2)", x.of(p, 2), 1);
        }
        Sentences.is("HIDDEN ones", x.count(9), 0b1000000111);
        Sentences.is("GUESTS still", x.count(2), 5);
        Sentences.is("is not brought", Feasts.week(x, "a>b"), -100);
        Sentences.is("hide(1, false)", x.hide(1, false), true);
        Sentences.is("once more", x.hide(1, false), true);
        Sentences.is("is brought", Feasts.week(x, "a>b"), 0);
        Sentences.is("one who is OUT", x.hide(2, false), true);
        Sentences.is("HIDDEN ones", x.count(9), 0b1000000001);
    }

    private static void hideNoneSuch() {
        EachBringsAnother x = Feasts.feast("1;2");
        for (int p : new int[] {2, -1, 10, 32, Integer.MAX_VALUE, Integer.MIN_VALUE}) {
            Sentences.is("hide(" + p + ", true)", x.hide(p, true), false);
            Sentences.is("hide(" + p + ", false)", x.hide(p, false), false);
        }
        Sentences.is("HIDDEN ones", x.count(9), 0);
        Sentences.is("of nobody", new EachBringsAnother().hide(0, true), false);
    }

    private static void babies() {
        EachBringsAnother x = new EachBringsAnother();
        Sentences.is("the first of all", x.baby(0), 0);
        Sentences.is("KNOWN by it", x.baby(1), 1);
        for (int n = 2; n <= 9; n++) {
            Sentences.is("KNOWN by all", x.baby((1 << n) - 1), n);
        }
        Sentences.is("of(9, 1)", x.of(9, 1), 511);
        Sentences.is("of(0, 1)", x.of(0, 1), 1022);
        Sentences.is("of(9, 0)", x.of(9, 0), 0);
        Sentences.is("STRANGERS", x.count(3), 1023);
        EachBringsAnother y = Feasts.feast("9!;9?");
        Sentences.is("KNOWN by none", y.baby(0), 2);
        Sentences.is("of(2, 1)", y.of(2, 1), 0);
        Sentences.is("of(0, 1)", y.of(0, 1), 0);
        Sentences.is("HIDDEN ones", y.count(9), 2);
    }

    private static void babyOfNoneSuch() {
        EachBringsAnother x = Feasts.feast("1!;2");
        for (int bits : new int[] {4, 7, 8, 1024, -1, -2, Integer.MIN_VALUE, Integer.MAX_VALUE}) {
            Sentences.is("baby(" + bits + ")", x.baby(bits), -1);
        }
        Sentences.is("PEOPLE", x.count(0), 2);
        Sentences.is("all there are", x.baby(3), 2);
        Sentences.is("of nobody", new EachBringsAnother().baby(1), -1);
    }

    private static void babyOfTen() {
        EachBringsAnother x = Feasts.feast("1;1;1;1;1;1;1;1;1");
        Sentences.is("the tenth", x.baby(511), 9);
        Sentences.is("behind ten", x.baby(0), -1);
        Sentences.is("behind ten", x.baby(1023), -1);
        Sentences.is("PEOPLE", x.count(0), 10);
    }

    /** PRICES as one number. */
    private static int prices(EachBringsAnother x) {
        int all = 0;
        for (int p = 0; p < x.count(0); p++) {
            all = 10 * all + x.of(p, 0);
        }
        return all;
    }

    private static void sheetOfAll() {
        EachBringsAnother x = Feasts.feast(Feasts.CHAIN);
        for (int kind = 0; kind <= 2; kind++) {
            Sentences.is("ten entries", x.sheet(kind, 10, 0, 1), 45);
            Sentences.is("PRICES", prices(x), 123456789);
            Sentences.is("falling ones", x.sheet(kind, 10, 9, -1), 45);
            Sentences.is("the first", x.of(0, 0), 9);
            Sentences.is("like ones", x.sheet(kind, 10, 7, 0), 70);
        }
    }

    private static void entriesWrap() {
        EachBringsAnother x = Feasts.feast("1;1;1");
        Sentences.is("MAX, then MIN", x.sheet(2, 3, Integer.MAX_VALUE, 1), 9);
        Sentences.is("PRICES", prices(x), 900);
        Sentences.is("MIN, then MAX", x.sheet(2, 3, Integer.MIN_VALUE, -1), 18);
        Sentences.is("PRICES", prices(x), 99);
        Sentences.is("twice MIN is 0", x.sheet(2, 3, 3, Integer.MIN_VALUE), 6);
        Sentences.is("PRICES", prices(x), 303);
    }

    private static void bytesAndShorts() {
        EachBringsAnother x = Feasts.feast("1;1;1");
        Sentences.is("bytes 127, -128, -127", x.sheet(0, 3, 127, 1), 9);
        Sentences.is("PRICES", prices(x), 900);
        Sentences.is("bytes 5, 5, 5", x.sheet(0, 3, 256 + 5, 256), 15);
        Sentences.is("bytes 4, 4, 4", x.sheet(0, 3, -256 + 4, 0), 12);
        Sentences.is("bytes -1, 0, 1", x.sheet(0, 3, 255, 1), 1);
        Sentences.is("bytes -128, -127, -126", x.sheet(0, 3, 128, 1), 0);
        Sentences.is("shorts 32767, -32768, -32767", x.sheet(1, 3, 32767, 1), 9);
        Sentences.is("PRICES", prices(x), 900);
        Sentences.is("shorts 5, 5, 5", x.sheet(1, 3, 65536 + 5, 65536), 15);
        Sentences.is("shorts -1, 0, 1", x.sheet(1, 3, 65535, 1), 1);
        Sentences.is("shorts 256 and more", x.sheet(1, 3, 256, 1), 27);
        Sentences.is("ints 65536 and more", x.sheet(2, 3, 65536, 1), 27);
        Sentences.is("ints 128 and more", x.sheet(2, 3, 128, 1), 27);
    }

    private static void putTo0To9() {
        EachBringsAnother x = Feasts.feast("1;1;1;1");
        for (int kind = 0; kind <= 2; kind++) {
            Sentences.is("8 .. 11", x.sheet(kind, 4, 8, 1), 35);
            Sentences.is("PRICES", prices(x), 8999);
            Sentences.is("-2 .. 1", x.sheet(kind, 4, -2, 1), 1);
            Sentences.is("PRICES", prices(x), 1);
        }
        Sentences.is("MIN, MAX", x.sheet(2, 2, Integer.MIN_VALUE, -1), 9);
    }

    private static void thoseBehindHave0() {
        EachBringsAnother x = Feasts.feast("5;6;7;8");
        for (int kind = 0; kind <= 2; kind++) {
            Sentences.is("three", x.sheet(kind, 3, 5, 1), 18);
            Sentences.is("PRICES", prices(x), 5670);
            Sentences.is("none", x.sheet(kind, 0, 5, 1), 0);
            Sentences.is("PRICES", prices(x), 0);
        }
    }

    private static void entriesBeyond() {
        EachBringsAnother x = Feasts.feast("5;6");
        for (int kind = 0; kind <= 2; kind++) {
            Sentences.is("ten for two", x.sheet(kind, 10, 3, 1), 7);
            Sentences.is("three for two", x.sheet(kind, 3, 4, 1), 9);
            Sentences.is("two for two", x.sheet(kind, 2, 5, 1), 11);
        }
        Feasts.land(x, "8");
        Sentences.is("who comes then has its own", prices(x), 568);
        Sentences.is("ten for nobody", new EachBringsAnother().sheet(2, 10, 9, 0), 0);
    }

    private static void entriesBelow0() {
        EachBringsAnother x = Feasts.feast("5;6");
        for (int kind = 0; kind <= 2; kind++) {
            Sentences.is("-1", x.sheet(kind, -1, 3, 1), -2);
            Sentences.is("MIN", x.sheet(kind, Integer.MIN_VALUE, 3, 1), -2);
            Sentences.is("PRICES", prices(x), 56);
        }
        Sentences.is("0 is not below 0", x.sheet(2, 0, 3, 1), 0);
        Sentences.is("of nobody", new EachBringsAnother().sheet(0, -1, 0, 0), -2);
    }

    private static void missingSheet() {
        for (int n : new int[] {0, 3, 10, -1, Integer.MIN_VALUE}) {
            EachBringsAnother x = Feasts.feast("5;6");
            Sentences.is("sheet(3, " + n + ", 8, 1)", x.sheet(3, n, 8, 1), -3);
            Sentences.is("PRICES", prices(x), 0);
        }
        Sentences.is("of nobody", new EachBringsAnother().sheet(3, 0, 0, 0), -3);
    }

    private static void anotherKind() {
        EachBringsAnother x = Feasts.feast("5;6");
        for (int kind : new int[] {-1, 4, Integer.MAX_VALUE, Integer.MIN_VALUE}) {
            Sentences.is("sheet(" + kind + ", 2, 8, 1)", x.sheet(kind, 2, 8, 1), -1);
            Sentences.is("sheet(" + kind + ", -1, 8, 1)", x.sheet(kind, -1, 8, 1), -1);
        }
        Sentences.is("PRICES", prices(x), 56);
    }

    private static void entriesAbove10() {
        EachBringsAnother x = Feasts.feast("5;6");
        for (int kind = 0; kind <= 3; kind++) {
            Sentences.is("sheet(" + kind + ", 11, 8, 1)", x.sheet(kind, 11, 8, 1), -1);
            Sentences.is("sheet(" + kind + ", MAX, 8, 1)", x.sheet(kind, Integer.MAX_VALUE, 8, 1), -1);
        }
        Sentences.is("PRICES", prices(x), 56);
        Sentences.is("10 are not above 10", x.sheet(2, 10, 8, 1), 17);
    }
}
