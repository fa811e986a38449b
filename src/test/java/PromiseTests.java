/** For each promise of the document: ordinary answers, the edges that it names, wrong inputs. */
public final class PromiseTests {
    private static final int[] CHECKS = new int[44];
    private static int wrong;
    private static int promise;

    private static void is(String call, long got, long due) {
        CHECKS[promise]++;
        if (got != due) {
            wrong++;
            System.out.println("promise " + promise + ": " + call + " answered " + got + ", due is " + due);
        }
    }

    private static void is(String call, boolean got, boolean due) {
        is(call, got ? 1 : 0, due ? 1 : 0);
    }

    /** The ROW is just that. */
    private static void rowIs(EachBringsAnother x, int... due) {
        is("count(7)", x.count(7), due.length);
        for (int i = 0; i < due.length && i < x.count(7); i++) {
            is("row(" + i + ")", x.row(i), due[i]);
        }
    }

    private static void throwsNone(String call, Runnable run) {
        is(call + " throws", Feasts.throwsNone(run), true);
    }

    private static EachBringsAnother of(String land) {
        EachBringsAnother x = new EachBringsAnother();
        is("land " + land, Feasts.land(x, land), land.split(";").length);
        return x;
    }

    private static EachBringsAnother of(String land, int grace, int seats) {
        EachBringsAnother x = of(land);
        x.law(0, grace);
        x.law(1, seats);
        return x;
    }

    /** So many know each other, all of them, and some of the first are GUESTS: far too many STATES from nine on. */
    private static EachBringsAnother crowded(int people, int guests) {
        EachBringsAnother x = new EachBringsAnother();
        for (int p = 0; p < people; p++) {
            Feasts.land(x, p < guests ? "1!" : "1");
            for (int q = 0; q < p; q++) {
                x.meet(p, q, true);
            }
        }
        x.law(0, 3);
        return x;
    }

    public static void main(String[] args) {
        theLand();
        theLaw();
        weeks();
        byRule();
        nextWeek();
        whatCanCome();
        bounds();
        whoLedWhom();
        kept();
        for (int p = 1; p <= 43; p++) {
            if (CHECKS[p] == 0) {
                wrong++;
                System.out.println("promise " + p + " is not tested");
            }
        }
        System.out.println("PromiseTests: " + (wrong == 0 ? "all answers are as due" : wrong + " are not as due"));
        if (wrong > 0) {
            System.exit(1);
        }
    }

    private static void theLand() {
        aNewObject();
        signs();
        ends();
        lands();
        landsThatAreWrong();
        rules();
        rulesThatAreWrong();
        ofOne();
    }

    private static void aNewObject() {
        promise = 1;
        EachBringsAnother x = new EachBringsAnother();
        for (int what = 0; what <= 9; what++) {
            is("count(" + what + ")", x.count(what), 0);
        }
        is("NONE", EachBringsAnother.NONE, -1);
        is("law(0, 1)", x.law(0, 1), 1);
        is("law(1, 10)", x.law(1, 10), 10);
        is("was(0)", x.was(0), 0);
        rowIs(x);
    }

    private static void signs() {
        promise = 2;
        EachBringsAnother x = new EachBringsAnother();
        is("sign", x.sign('1' << 24 | '!' << 16 | ';' << 8 | '2'), 4);
        is("land", x.land(), 2);
        is("the highest byte first", x.of(0, 3), 1);
        is("the lowest byte last", x.of(1, 0), 2);
        for (int k = 1; k <= 20; k++) {
            is("sign", x.sign(-1), 4 * k);
        }
        is("no more than 80", x.sign(-1), -1);
        is("count(8)", x.count(8), 80);
        is("end(78)", x.end(78), true);
        is("two signs are not enough", x.sign(-1), -1);
        is("end(76)", x.end(76), true);
        is("sign", x.sign(0), 80);
    }

    private static void ends() {
        promise = 3;
        EachBringsAnother x = new EachBringsAnother();
        is("end(0)", x.end(0), true);
        is("end(1)", x.end(1), false);
        is("end(-1)", x.end(-1), false);
        x.sign('1' << 24 | '!' << 16 | ';' << 8 | '2');
        is("end(5)", x.end(5), false);
        is("end(4)", x.end(4), true);
        is("end(-1)", x.end(-1), false);
        is("end(MIN)", x.end(Integer.MIN_VALUE), false);
        is("count(8)", x.count(8), 4);
        is("end(2)", x.end(2), true);
        is("count(8)", x.count(8), 2);
        is("end(3)", x.end(3), false);
        is("land", x.land(), 1);
        is("end(1) behind land()", x.end(1), false);
    }

    private static void lands() {
        promise = 4;
        EachBringsAnother x = new EachBringsAnother();
        is("an empty one", x.land(), 0);
        is("land", Feasts.land(x, "1!;2a?;3ab!?;0"), 4);
        is("TEXT", x.count(8), 0);
        is("PEOPLE", x.count(0), 4);
        is("never", x.never(), 10);
        is("GUESTS", x.count(2), 5);
        is("STRANGERS", x.count(3), 10);
        is("HIDDEN", x.count(9), 6);
        is("of(0, 1)", x.of(0, 1), 6);
        is("of(2, 1)", x.of(2, 1), 3);
        is("of(3, 1)", x.of(3, 1), 0);
        is("was(0)", x.was(0), 5);
        is("a land behind", Feasts.land(x, "9acd;7be!"), 2);
        is("never", x.never(), 0b000010);
        is("of(0, 1)", x.of(0, 1), 0b10110);
        is("of(4, 1)", x.of(4, 1), 0b101101);
        is("of(5, 1)", x.of(5, 1), 0b10010);
        is("was(0)", x.was(0), 0b100101);
        Feasts.week(x, "");
        is("behind a WEEK", Feasts.land(x, "5!"), 1);
        is("was(0)", x.was(0), 0b100101);
        is("was(1)", x.was(1), 0b1000000);
        is("of(6, 6)", x.of(6, 6), 1);
        is("of(6, 4)", x.of(6, 4), 0);
        is("no WEEK can be undone", x.undo(), -1);
        Feasts.week(x, "");
        is("an empty land()", x.land(), 0);
        is("lets the WEEK be undone", x.count(6), 1);
        is("a wrong one", Feasts.land(x, "x"), -1);
        is("too", x.undo(), 1);
    }

    private static void landsThatAreWrong() {
        String[] texts = {"x", "!", ";", "1a", "1;2b", "1;2aa", "1;1;3ba", "1!!", "1?!", "1??", "1!a", "1;", "12", "1;2a?;",
            "1;2a;3c", "1;2A", "1;2a;3a b", "1!?;;", "\u00e91"};
        int[] at = {0, 0, 0, 1, 3, 4, 6, 2, 2, 2, 2, 2, 1, 6, 6, 3, 7, 4, 0};
        for (int k = 0; k < texts.length; k++) {
            EachBringsAnother x = new EachBringsAnother();
            is("land " + texts[k], Feasts.land(x, texts[k]), -1 - at[k]);
            is("nothing of it comes", x.count(0), 0);
            is("THE TEXT is empty", x.count(8), 0);
        }
        EachBringsAnother x = of("1;1;1;1;1;1;1;1;1");
        is("two where one has room", Feasts.land(x, "1;1"), -3);
        is("one and no end", Feasts.land(x, "1;"), -3);
        is("one, and another one's first sign is wrong", Feasts.land(x, "1;!"), -3);
        is("none came", x.count(0), 9);
        is("one", Feasts.land(x, "1abcdefghi"), 1);
        is("its own letter", x.of(9, 1), 0b111111111);
        is("no room", Feasts.land(x, "1"), -1);
        is("no room for a wrong one", Feasts.land(x, "x"), -1);
        is("an empty one", Feasts.land(x, ""), 0);
        String long77 = "1!?;1a!?;1ab!?;1abc!?;1abcd!?;1abcde!?;1abcdef!?;1abcdefg!?;1abcdefgh!?;1abcdefghi!?".substring(0, 77);
        is("77 signs", Feasts.land(new EachBringsAnother(), long77), -77);
        is("76 signs", Feasts.land(new EachBringsAnother(), long77.substring(0, 76)), 10);
        is("80 signs that end at 76 with ;", Feasts.land(new EachBringsAnother(),
            "1!?;1a!?;1ab!?;1abc!?;1abcd!?;1abcde!?;1abcdef!?;1abcdefg!?;1abcdefgh!?;1ab;" + "1abc"), -77);
        is("wrong ahead of 76", Feasts.land(new EachBringsAnother(), "1!?;1b" + "1".repeat(74)), -6);
        is("76 signs with ; as the last", Feasts.land(new EachBringsAnother(),
            "1!?;1a!?;1ab!?;1abc!?;1abcd!?;1abcde!?;1abcdef!?;1abcdefg!?;1abcdefgh!?;1ab;"), -77);
    }

    private static void rules() {
        promise = 5;
        picksBy("", 1);
        picksBy("p", 3);
        picksBy("-p+9", 1);
        picksBy("i=2", 2);
        picksBy("i<2", 1);
        picksBy("i>2", 3);
        picksBy("-(i<2)", 2);
        picksBy("-(i>1)", 1);
        picksBy("-(i>1)-(i<2)*2+1", 2);
        picksBy("-(p=2)", 2);
        picksBy("-1", -2);
        picksBy("0-i", -2);
        picksBy("--i", 3);
        picksBy("---i+9", 1);
        picksBy("1--i", 3);
        picksBy("0*-i", 1);
        picksBy("-(-(-i))+3", 1);
        picksBy("2-1-i", 1);
        picksBy("i-(3-1)", 3);
        picksBy("9/0", 1);
        picksBy("9/(i-i)", 1);
        picksBy("-7/2+3", 1);
        picksBy("-7/2+2", -2);
        picksBy("7/-2+2", -2);
        picksBy("6/4*2-2", 1);
        picksBy("6/(4*2)-1", -2);
        picksBy("2+3*i=8", 2);
        picksBy("(2+3)*i=10", 2);
        picksBy("i>1+1", 3);
        picksBy("(i>1)+1", 2);
        picksBy("(i=1)=0", 2);
        picksBy("k=2", 1);
        picksBy("k=3", 3);
        picksBy("s=1", 1);
        picksBy("s=2", 3);
        picksBy("g-1", 1);
        picksBy("g-2", -2);
        picksBy("n", 1);
        picksBy("0-n-1", -2);
        picksBy("l", 1);
        picksBy("w", 1);
        picksBy("w-1", -2);
        picksBy("((((p))))", 3);
        picksBy("007-7", 1);
        picksBy("p*i-4*i", 3);
        picksBy("-(p-4)*(p-4)+1", 3);
        picksBy("999*999*999*999", -2);
        picksBy("256*256*256*127", 1);
        picksBy("256*256*256*128", -2);
        picksBy("256*256*256*128-1", 1);
        picksBy("256*256*256*128/-1", -2);
        EachBringsAnother y = of("0!;0!;5a;1ab;2b?;3bc", 3, 10);
        Feasts.rule(y, "k");
        is("KNOWS", y.picks(0), 2);
        Feasts.rule(y, "-k");
        is("KNOWS", y.picks(0), -2);
        Feasts.rule(y, "g");
        is("GUESTS", y.picks(0), 3);
        Feasts.rule(y, "s");
        is("STRANGERS", y.picks(1), 5);
        Feasts.rule(y, "n*p-1");
        is("who would bring it", y.picks(0), -2);
        is("who would bring it", y.picks(1), 5);
        Feasts.rule(y, "l-1");
        is("LATE", y.picks(0), -2);
        Feasts.week(y, "");
        is("LATE", y.picks(0), 2);
        Feasts.rule(y, "w-1");
        is("WEEKS", y.picks(0), 2);
        Feasts.rule(y, "w-2");
        is("WEEKS", y.picks(0), -2);
        Feasts.rule(y, "0-l");
        is("0 is a NUMBER", y.picks(0), -2);
        Feasts.rule(y, "l*0");
        is("0 is a NUMBER", y.picks(0), 2);
        Feasts.rule(y, "0-1+0");
        is("0 is a NUMBER", y.picks(0), -2);
        Feasts.rule(y, "(w)=(1)");
        is("a wrong RULE", Feasts.rule(y, "w-2-"), -5);
        is("changes nothing", y.picks(0), 2);
        is("one that ends too early", Feasts.rule(y, "i+"), -3);
        Feasts.rule(y, "0-i");
        is("nothing of it is left over", y.picks(0), -2);
        is("one that ends too early in ( )", Feasts.rule(y, "(i*(n"), -6);
        Feasts.rule(y, "2-i");
        is("nor of its depth", y.picks(0), 2);
        is("two comparisons", Feasts.rule(y, "i<p<k"), -4);
        is("nothing of them is left over", Feasts.rule(y, "0-1<i"), 0);
        Feasts.rule(y, "i");
        is("the last one", y.picks(0), 3);
        Feasts.rule(y, "");
        is("an empty one is none", y.picks(0), 2);
        EachBringsAnother z = of("1;2a!;3b");
        is("the first one", z.picks(1), 0);
    }

    /** Whom a would bring by a RULE: b, c, d have PRICES 2 .. 4, all know it, and d knows b and c. */
    private static void picksBy(String text, int due) {
        EachBringsAnother x = of("1!;2a;3a;4abc;9");
        is("rule " + text, Feasts.rule(x, text), 0);
        is("THE TEXT", x.count(8), 0);
        is("picks(0) by " + text, x.picks(0), due);
    }

    private static void rulesThatAreWrong() {
        String[] texts = {"x", "i+", "i<p<k", "i=p>1", "(i", "(((((i", "1000", "i)", "()", "i i", "+i", "1i", "i1", "2*/3", "-", "(i<p)<k<l",
            "(i<p<k)", "i~i", "I", "12(3)", "((i)", "1=2+(3=4=5)", "1<", "01234", "(1)2", "(i)i",
            "-(1)-(2)3"};
        int[] at = {0, 2, 3, 3, 2, 4, 3, 1, 1, 1, 0, 1, 1, 2, 1, 7, 4, 1, 0, 2, 4, 8, 2, 3, 3, 3, 8};
        for (int k = 0; k < texts.length; k++) {
            EachBringsAnother x = of(Feasts.FIVE);
            Feasts.rule(x, "0-1");
            is("rule " + texts[k], Feasts.rule(x, texts[k]), -1 - at[k]);
            is("THE TEXT is empty", x.count(8), 0);
            is("THE RULE stays", x.picks(0), -2);
        }
        EachBringsAnother x = of(Feasts.FIVE);
        String forty = "1+1+1+1+1+1+1+1+1+1+1+1+1+1+1+1+1+1+1-20";
        is("40 signs", Feasts.rule(x, forty), 0);
        is("19 - 20", x.picks(0), -2);
        is("41 signs", Feasts.rule(x, forty + "1"), -41);
        is("41 signs, the last one wrong", Feasts.rule(x, forty + "x"), -41);
        is("40 signs that go on", Feasts.rule(x, forty.substring(0, 39) + "+"), -41);
        is("41 signs, the first wrong", Feasts.rule(x, "x" + forty), -1);
        is("40 signs of -", Feasts.rule(x, "-".repeat(40)), -41);
        is("39 signs of -", Feasts.rule(x, "-".repeat(39) + "i"), 0);
        is("an odd number of -", x.picks(0), -2);
        is("deep ones side by side", Feasts.rule(x, "((((i))))-((((p))))"), 0);
        is("i - p", x.picks(0), -2);
        is("a comparison in each", Feasts.rule(x, "((i<p)<(i>p))=((i=p)=0)"), 0);
    }

    private static void ofOne() {
        promise = 6;
        EachBringsAnother x = of("1!;2a?;3ab!?", 2, 10);
        int[][] due = {{1, 6, 0, 1, 0, -1, 0}, {2, 5, 1, 0, -1, -1, -1}, {3, 3, 1, 1, 0, -1, 0}};
        for (int p = 0; p < 3; p++) {
            for (int what = 0; what < 7; what++) {
                is("of(" + p + ", " + what + ")", x.of(p, what), due[p][what]);
            }
        }
        x.hide(1, false);
        is("week", Feasts.week(x, "c>b"), 2);
        is("of(1, 3)", x.of(1, 3), 1);
        is("of(1, 5)", x.of(1, 5), 2);
        is("of(1, 6)", x.of(1, 6), 1);
        is("of(0, 4)", x.of(0, 4), 1);
        Feasts.week(x, "");
        is("of(0, 3)", x.of(0, 3), 2);
        is("of(0, 4)", x.of(0, 4), -1);
        is("of(0, 6)", x.of(0, 6), 0);
        throwsNone("of(3, 0)", () -> x.of(3, 0));
        throwsNone("of(-1, 0)", () -> x.of(-1, 0));
        throwsNone("of(0, 7)", () -> x.of(0, 7));
        throwsNone("of(0, -1)", () -> x.of(0, -1));
        throwsNone("of(MIN, 0)", () -> x.of(Integer.MIN_VALUE, 0));
        throwsNone("of nobody", () -> new EachBringsAnother().of(0, 0));
    }

    private static void theLaw() {
        laws();
        meetings();
        hiding();
        babies();
        sheets();
    }

    private static void laws() {
        promise = 7;
        EachBringsAnother x = of("1!;2a;3a");
        is("law(0, 3)", x.law(0, 3), 1);
        is("law(0, 2)", x.law(0, 2), 3);
        is("law(1, 3)", x.law(1, 3), 10);
        is("law(1, 1)", x.law(1, 1), 3);
        int[][] others = {{0, 0}, {0, 4}, {0, -1}, {1, 0}, {1, 11}, {2, 1}, {-1, 1}, {1, Integer.MAX_VALUE}};
        for (int[] o : others) {
            is("law(" + o[0] + ", " + o[1] + ")", x.law(o[0], o[1]), -1);
        }
        is("law(1, 10)", x.law(1, 10), 1);
        is("law(0, 3)", x.law(0, 3), 2);
        Feasts.week(x, "");
        Feasts.week(x, "");
        is("LATE 2 of GRACE 3", x.of(0, 4), 2);
        is("law(0, 1)", x.law(0, 1), 3);
        is("LATE stays", x.of(0, 4), 2);
        Feasts.week(x, "");
        is("OUT", x.of(0, 3), 2);
    }

    private static void meetings() {
        promise = 8;
        EachBringsAnother x = of("1!;2a;3");
        is("meet(0, 2, true)", x.meet(0, 2, true), true);
        is("of(0, 1)", x.of(0, 1), 6);
        is("of(2, 1)", x.of(2, 1), 1);
        is("again", x.meet(2, 0, true), true);
        is("of(0, 1)", x.of(0, 1), 6);
        is("meet(1, 0, false)", x.meet(1, 0, false), true);
        is("of(0, 1)", x.of(0, 1), 4);
        is("of(1, 1)", x.of(1, 1), 0);
        is("meet(1, 1, true)", x.meet(1, 1, true), false);
        is("meet(0, 3, true)", x.meet(0, 3, true), false);
        is("meet(3, 0, true)", x.meet(3, 0, true), false);
        is("meet(-1, 0, true)", x.meet(-1, 0, true), false);
        is("meet(0, MIN, false)", x.meet(0, Integer.MIN_VALUE, false), false);
        is("soonest(2)", x.soonest(2), 1);
        is("meet(0, 2, false)", x.meet(0, 2, false), true);
        is("soonest(2)", x.soonest(2), -2);
        is("of(0, 1)", x.of(0, 1), 0);
    }

    private static void hiding() {
        promise = 9;
        EachBringsAnother x = of("1!;2a;3a");
        is("hide(1, true)", x.hide(1, true), true);
        is("of(1, 2)", x.of(1, 2), 1);
        is("count(9)", x.count(9), 2);
        is("hide(0, true)", x.hide(0, true), true);
        is("a GUEST too", x.count(9), 3);
        is("and is a GUEST", x.count(2), 1);
        is("it brings", Feasts.week(x, "a>c"), 3);
        is("hide(0, false)", x.hide(0, false), true);
        is("hide(0, false)", x.hide(0, false), true);
        is("count(9)", x.count(9), 2);
        is("hide(3, true)", x.hide(3, true), false);
        is("hide(-1, true)", x.hide(-1, true), false);
        is("hide(1, false)", x.hide(1, false), true);
        is("soonest(1)", x.soonest(1), 1);
    }

    private static void babies() {
        promise = 10;
        EachBringsAnother x = of("1!;2a");
        Feasts.week(x, "a>b");
        is("a WEEK can be undone", x.count(6), 1);
        is("refused", x.baby(4), -1);
        is("refused", x.baby(-1), -1);
        is("refused", x.baby(Integer.MIN_VALUE), -1);
        is("the WEEK still can", x.count(6), 1);
        is("baby(3)", x.baby(3), 2);
        is("no more", x.undo(), -1);
        is("of(2, 0)", x.of(2, 0), 0);
        is("of(2, 1)", x.of(2, 1), 3);
        is("of(2, 2)", x.of(2, 2), 0);
        is("of(2, 3)", x.of(2, 3), 0);
        is("of(2, 5)", x.of(2, 5), -1);
        is("of(2, 6)", x.of(2, 6), -1);
        is("of(0, 1)", x.of(0, 1), 6);
        is("of(1, 1)", x.of(1, 1), 5);
        for (int n = 3; n < 10; n++) {
            is("baby", x.baby(n % 2 == 0 ? 0 : 1 << n - 1), n);
        }
        is("no room", x.baby(0), -1);
        is("count(0)", x.count(0), 10);
        is("a STRANGER", x.count(3), 0b1111111100);
    }

    private static void sheets() {
        promise = 11;
        EachBringsAnother x = of("1!;2a;3a;4");
        is("ints", x.sheet(2, 4, 1, 2), 1 + 3 + 5 + 7);
        is("of(3, 0)", x.of(3, 0), 7);
        is("put to 0 .. 9", x.sheet(2, 4, -5, 6), 0 + 1 + 7 + 9);
        is("those behind have 0", x.sheet(2, 2, 3, 1), 7);
        is("of(2, 0)", x.of(2, 0), 0);
        is("entries beyond", x.sheet(2, 10, 1, 0), 4);
        is("no entries", x.sheet(2, 0, 5, 5), 0);
        is("bytes", x.sheet(0, 4, 256 + 3, 1), 3 + 4 + 5 + 6);
        is("bytes have a sign", x.sheet(0, 4, 127, 1), 9);
        is("shorts", x.sheet(1, 4, 65536 + 3, 65536), 12);
        is("shorts have a sign", x.sheet(1, 4, 32767, 1), 9);
        is("as ints these are great", x.sheet(2, 4, 65536 + 3, 65536), 36);
        is("ints wrap", x.sheet(2, 2, Integer.MAX_VALUE, 1), 9);
        is("before", x.sheet(2, 4, 2, 0), 8);
        is("below 0", x.sheet(2, -1, 5, 5), -2);
        is("below 0", x.sheet(0, Integer.MIN_VALUE, 5, 5), -2);
        is("another kind", x.sheet(4, -1, 5, 5), -1);
        is("another kind", x.sheet(-1, 1, 5, 5), -1);
        is("above 10", x.sheet(1, 11, 5, 5), -1);
        is("above 10 and missing", x.sheet(3, 11, 5, 5), -1);
        is("nothing changed", x.of(3, 0), 2);
        is("missing", x.sheet(3, -7, 5, 5), -3);
        is("all 0", x.of(0, 0) + x.of(1, 0) + x.of(2, 0) + x.of(3, 0), 0);
        is("nobody", new EachBringsAnother().sheet(2, 10, 9, 0), 0);
        x.sheet(2, 10, 0, 3);
        is("what a search pays", x.cheap(1), 3);
        x.sheet(2, 10, 0, 4);
        is("what a search pays now", x.cheap(1), 4);
    }

    private static void weeks() {
        weeksTold();
        weeksThatAreWrong();
        sixtyWeeks();
        undone();
    }

    private static void weeksTold() {
        promise = 12;
        EachBringsAnother x = of("1!;2a!;3ab;4a;5b", 2, 10);
        is("nobody brings anybody", Feasts.week(x, ""), 0);
        is("LATE", x.of(0, 4), 1);
        is("two bring, told backwards", Feasts.week(x, "b>e;a>c"), 8);
        is("TEXT", x.count(8), 0);
        is("GUESTS", x.count(2), 0b10111);
        is("LATE", x.of(0, 4), 0);
        is("paid", x.count(5), 8);
        is("BROUGHT", x.of(2, 5), 0);
        is("BROUGHT", x.of(4, 5), 1);
        is("WEEKS", x.count(1), 2);
        is("one brings", Feasts.week(x, "a>d"), 4);
        is("LATE", x.of(1, 4), 1);
        is("nobody", Feasts.week(x, ""), 0);
        is("those OUT", x.count(4), 0b10110);
        is("GUESTS", x.count(2), 0b01001);
        is("paid", x.count(5), 12);
        is("the ROW is left alone", x.count(7), 0);
    }

    private static void weeksThatAreWrong() {
        String[] texts = {"x", "k>a", "a", "a>", "a>k", "a>b;", "a>b,a>c", "ab", ">", ";", "a>b;c", "A>b", "a>b;>", "a>bb",
            "1", "a>b;a>b;a>b;a>b;a>b;a>b;a>b;a>b;a>b;a>b;", "a>b;a>b;a>b;a>b;a>b;a>b;a>b;a>b;a>b;a>b;x", "a>b;x"};
        int[] at = {0, 0, 1, 2, 2, 4, 3, 1, 0, 0, 5, 0, 4, 3, 0, 40, 40, 4};
        for (int k = 0; k < texts.length; k++) {
            EachBringsAnother x = of(Feasts.FIVE);
            is("week " + texts[k], Feasts.week(x, texts[k]), -1 - at[k]);
            is("TEXT", x.count(8), 0);
            is("WEEKS", x.count(1), 0);
        }
        EachBringsAnother x = of("1!;2a!;3ab;4a?;5b;6!");
        String[] cannot = {"c>a", "a>b", "a>e", "a>d", "j>c", "a>j", "a>a", "a>c;a>c", "a>c;b>c", "a>c;b>e;f>c", "e>c;x>",
            "a>c;b>e;b>e"};
        int[] why = {-100, -100, -100, -100, -100, -100, -100, -101, -101, -102, -5, -102};
        for (int k = 0; k < cannot.length; k++) {
            is("week " + cannot[k], Feasts.week(x, cannot[k]), why[k]);
            is("nothing changes", x.count(2) * 100 + x.count(1) * 10 + x.count(5), 3500);
        }
        is("a STRANGER brings one it knows", Feasts.week(of(Feasts.FIVE), "d>b"), -100);
        is("a STRANGER brings the first", Feasts.week(of("1;2a;3!"), "b>a"), -100);
        EachBringsAnother out = of("1!;2a!;3a;4b", 1, 10);
        Feasts.week(out, "b>d");
        is("one who is OUT brings one it knows", Feasts.week(out, "a>c"), -100);
        is("one who is OUT is brought", Feasts.week(out, "b>a"), -100);
        x.law(1, 3);
        is("four GUESTS", Feasts.week(x, "a>c;b>e"), -200);
        is("a wrong PAIR ahead of SEATS", Feasts.week(x, "a>c;b>c"), -101);
        is("two GUESTS", Feasts.week(x, "a>c"), 3);
        EachBringsAnother y = of("1!;2!;3a", 2, 2);
        is("three GUESTS", Feasts.week(y, "a>c"), -200);
        is("nobody brings: more may be", of("1!;2!;3!", 2, 1).week(), 0);
        y.law(0, 1);
        is("b is OUT then", Feasts.week(y, "a>c"), 3);
        EachBringsAnother z = of("0!;0!;0!;0!;0!;1a;1b;1c;1d;1e");
        is("five PAIRS", Feasts.week(z, "e>j;d>i;c>h;b>g;a>f"), 5);
    }

    private static void sixtyWeeks() {
        EachBringsAnother x = of("1!;1a");
        for (int k = 1; k <= 60; k++) {
            is("week", Feasts.week(x, ""), 0);
            is("count(1)", x.count(1), k);
        }
        is("no more", Feasts.week(x, ""), -300);
        is("no more, ahead of PAIRS", Feasts.week(x, "a>b"), -300);
        is("behind what THE TEXT tells wrongly", Feasts.week(x, "a>"), -3);
        is("TEXT", x.count(8), 0);
        is("was(60)", x.was(60), 0);
        is("was(61)", x.was(61), -1);
        Feasts.land(x, "1!");
        is("goes", x.goes(5), 0);
        rowIs(x, 4, 0);
        is("was(60)", x.was(60), 4);
        is("of(2, 6)", x.of(2, 6), 60);
        EachBringsAnother y = of("1!;1a");
        for (int k = 0; k < 60; k++) {
            Feasts.week(y, "");
        }
        for (int k = 59; k >= 0; k--) {
            is("undo", y.undo(), k);
        }
        is("undo", y.undo(), -1);
        is("a GUEST", y.count(2), 1);
    }

    private static void undone() {
        promise = 14;
        EachBringsAnother x = of("1!;2a;3a", 2, 10);
        is("none", x.undo(), -1);
        Feasts.week(x, "a>b");
        Feasts.week(x, "");
        x.hide(2, true);
        x.law(0, 3);
        x.sheet(2, 3, 7, 0);
        x.meet(0, 1, false);
        is("count(6)", x.count(6), 2);
        is("undo", x.undo(), 1);
        is("LATE", x.of(0, 4), 0);
        is("paid", x.count(5), 2);
        is("undo", x.undo(), 0);
        is("GUESTS", x.count(2), 1);
        is("BROUGHT", x.of(1, 5), -1);
        is("first", x.of(1, 6), -1);
        is("paid", x.count(5), 0);
        is("was(1)", x.was(1), -1);
        is("PRICE stays", x.of(1, 0), 7);
        is("HIDDEN stays", x.count(9), 4);
        is("KNOWS stays", x.of(0, 1), 4);
        is("GRACE stays", x.law(0, 2), 3);
        is("none", x.undo(), -1);
        EachBringsAnother y = of("1;2a!;3b");
        is("soonest", y.soonest(0), 1);
        Feasts.week(y, "b>a");
        is("soonest", y.soonest(0), 0);
        is("undo", y.undo(), 0);
        is("BROUGHT", y.of(0, 5), -1);
        is("soonest", y.soonest(0), 1);
        Feasts.week(x, "");
        x.baby(1);
        is("a baby", x.undo(), -1);
        is("WEEKS", x.count(1), 1);
        Feasts.week(x, "");
        x.keep(0);
        is("keep", x.count(6), 1);
        x.again(0);
        is("again", x.undo(), -1);
        x.goes(0);
        is("none", x.undo(), -1);
    }

    private static void byRule() {
        promise = 13;
        EachBringsAnother x = of(Feasts.FIVE);
        Feasts.rule(x, "p");
        is("goes(-1)", x.goes(-1), -1);
        is("goes(61)", x.goes(61), -1);
        is("goes(0)", x.goes(0), 0);
        rowIs(x, 1, 0);
        is("goes(1)", x.goes(1), 1);
        rowIs(x, 5, 3);
        is("a refused one", x.goes(61), -1);
        rowIs(x, 5, 3);
        is("goes(60)", x.goes(60), 3);
        rowIs(x, 0, 11);
        is("count(5)", x.count(5), 14);
        is("goes(60)", x.goes(60), 0);
        rowIs(x, 0, 0);
        is("count(6)", x.count(6), 4);
        EachBringsAnother y = of("1!;2!;3ab;4b", 2, 3);
        is("the second finds no SEAT", y.goes(1), 1);
        rowIs(y, 7, 3);
        EachBringsAnother z = of("1!;2!;3ab;4b", 1, 3);
        is("the second is OUT then, and brought would be a fourth", z.goes(1), 1);
        rowIs(z, 5, 3);
        EachBringsAnother v = of("1!;2!;3ab;4b", 1, 1);
        is("nobody finds a SEAT", v.goes(60), 1);
        rowIs(v, 0, 0);
        EachBringsAnother u = of("1!;2!;3ab;4b?", 3, 10);
        Feasts.rule(u, "n");
        is("GUESTS by their numbers", u.goes(1), 1);
        is("BROUGHT", u.of(2, 5), 0);
        Feasts.rule(u, "-1");
        is("below 0", u.goes(60), 3);
        rowIs(u, 0, 0);
        is("b can stay", u.was(2), 7);
        is("b was LATE earlier", u.was(3), 5);
        is("nobody can", u.was(4), 0);
    }

    private static void nextWeek() {
        canBring();
        picked();
        mostPairs();
        barred();
    }

    private static void canBring() {
        promise = 15;
        EachBringsAnother x = of("1!;2a!;3ab;4a?;5b;6", 2, 10);
        is("can", x.can(), 3);
        rowIs(x, 0b10100);
        x.law(1, 3);
        is("three SEATS", x.can(), 3);
        rowIs(x, 0b10100);
        x.law(1, 2);
        is("two SEATS", x.can(), 0);
        rowIs(x, 0);
        x.law(0, 1);
        is("two SEATS, but the other one is OUT then", x.can(), 3);
        rowIs(x, 0b10100);
        x.hide(2, true);
        is("HIDDEN", x.can(), 2);
        rowIs(x, 0b10000);
        is("nobody", new EachBringsAnother().can(), 0);
        is("nobody is a GUEST", of("1;1a").can(), 0);
    }

    private static void picked() {
        promise = 16;
        EachBringsAnother x = of("1!;2a!;3ab;4ab;5b;6!", 2, 10);
        is("picks(0)", x.picks(0), 2);
        is("nobody ahead brings it", x.picks(1), 3);
        is("it knows none", x.picks(5), -2);
        is("a STRANGER", x.picks(2), -1);
        is("none such", x.picks(6), -1);
        is("none such", x.picks(-1), -1);
        is("none such", x.picks(Integer.MAX_VALUE), -1);
        Feasts.rule(x, "p");
        is("picks(0)", x.picks(0), 3);
        is("picks(1)", x.picks(1), 4);
        Feasts.rule(x, "3-p");
        is("picks(0)", x.picks(0), 2);
        is("-1 is below 0", x.picks(1), -2);
        Feasts.rule(x, "");
        x.law(1, 4);
        is("a SEAT", x.picks(0), 2);
        is("no SEAT", x.picks(1), -2);
        x.hide(2, true);
        is("HIDDEN", x.picks(0), 3);
        is("no WEEK went by", x.count(1), 0);
    }

    private static void mostPairs() {
        promise = 17;
        EachBringsAnother x = of("1!;2!;3ab;4a;5b?;6!");
        is("pairs", x.pairs(), 2);
        rowIs(x, 3, 12);
        x.law(1, 1);
        is("whatever SEATS are", x.pairs(), 2);
        x.hide(4, false);
        is("pairs", x.pairs(), 2);
        rowIs(x, 2, 14);
        x.meet(5, 2, true);
        is("pairs", x.pairs(), 3);
        rowIs(x, 3, 14, 52);
        is("nobody", new EachBringsAnother().pairs(), 0);
        rowIs(new EachBringsAnother());
        is("five", of("0!;0!;0!;0!;0!;1a;1ab;1bc;1cd;1de").pairs(), 5);
        EachBringsAnother y = of("0!;0!;0!;0!;0!;1abcde;1abcde;1abcde;1abcde;1abcde");
        is("five", y.pairs(), 5);
        rowIs(y, 5, 16, 27, 38, 49);
        is("one of two", of("1!;2!;3ab").pairs(), 1);
    }

    private static void barred() {
        promise = 18;
        EachBringsAnother x = of("1!;2!;3!;4ab;5c;6c");
        is("a and b know d alone", x.bars(), 3);
        rowIs(x, 1, 8);
        is("all can", of(Feasts.FIVE).bars(), 0);
        x.hide(3, true);
        is("a and b know none", x.bars(), 3);
        rowIs(x, 2, 0);
        x.hide(4, true);
        x.hide(5, true);
        is("none knows any", x.bars(), 7);
        rowIs(x, 3, 0);
        EachBringsAnother y = of("1!;2!;3!;4abc;5");
        is("three know one", y.bars(), 7);
        rowIs(y, 2, 8);
        EachBringsAnother z = of("1!;2!;3ab;4b;5!");
        is("the least set", z.bars(), 16);
        rowIs(z, 1, 0);
        z.meet(4, 2, true);
        z.meet(4, 3, true);
        is("three know two", z.bars(), 19);
        rowIs(z, 1, 12);
        z.law(1, 1);
        is("whatever SEATS are", z.bars(), 19);
        EachBringsAnother v = of("1!;2a");
        is("all can", v.bars(), 0);
        rowIs(v, 0, 0);
    }

    private static void whatCanCome() {
        statesCounted();
        tooMany();
        mostAndFewest();
        crowdAndBoth();
        lastAndBegin();
        cheapest();
        staying();
        withoutOne();
    }

    private static void statesCounted() {
        promise = 19;
        EachBringsAnother x = of("1!;2a;3a");
        is("now, one or none brought, both", x.states(), 9);
        rowIs(x, 4, 2);
        EachBringsAnother y = of("1!", 3, 10);
        is("LATE 0, 1, 2, OUT", y.states(), 4);
        rowIs(y, 1, 1);
        y.law(0, 1);
        is("LATE 0, OUT", y.states(), 2);
        is("nobody", new EachBringsAnother().states(), 1);
        EachBringsAnother z = of("1!;2a;3b", 1, 2);
        is("SEATS", z.states(), 6);
        z.hide(1, true);
        is("HIDDEN", z.states(), 2);
        rowIs(z, 1, 1);
    }

    private static void tooMany() {
        EachBringsAnother x = crowded(9, 2);
        x.goes(0);
        promise = 19;
        is("states", x.states(), -3);
        promise = 20;
        is("most", x.most(0), -3);
        is("most(61)", x.most(61), -1);
        promise = 21;
        is("reach", x.reach(60), -3);
        is("reach(-1)", x.reach(-1), -1);
        promise = 22;
        is("fewest", x.fewest(0), -3);
        is("fewest(61)", x.fewest(61), -1);
        promise = 23;
        is("crowd", x.crowd(), -3);
        promise = 24;
        is("both", x.both(0, 1, 0), -3);
        is("both(0, 0, 0)", x.both(0, 0, 0), -1);
        promise = 25;
        is("last", x.last(), -3);
        promise = 26;
        is("begin", x.begin(), -3);
        promise = 27;
        is("cheap", x.cheap(0), -3);
        is("cheap(61)", x.cheap(61), -1);
        promise = 28;
        is("stays", x.stays(0), -3);
        is("stays of a STRANGER", x.stays(8), -3);
        is("stays of none such", x.stays(9), -1);
        promise = 29;
        is("soonest", x.soonest(0), -3);
        is("soonest of none such", x.soonest(9), -1);
        promise = 30;
        is("worth", x.worth(8), -3);
        is("worth of a GUEST", x.worth(0), -1);
        promise = 31;
        is("needed", x.needed(), -3);
        promise = 32;
        is("never", x.never(), -3);
        rowIs(x, 3, 0);
        promise = 33;
        is("bound is no search", x.bound(), 23);
        promise = 19;
        x.law(1, 1);
        is("with one SEAT there are few", x.states(), 4);
        EachBringsAnother y = of("1!;1a;1b;1b;1a;1abcd;1bcde", 3, 4);
        is("no more than 3000", y.states(), 3000);
        int without = y.row(0);
        is("all are over then", y.most(60), 0);
        rowIs(y, without);
        EachBringsAnother z = of("1!;1a;1a;1ab;1abc;1abcd;1cde;1adefg", 2, 3);
        is("3001", z.states(), -3);
        rowIs(z);
    }

    private static void mostAndFewest() {
        promise = 20;
        EachBringsAnother x = of(Feasts.FIVE);
        int[] most = {1, 2, 4, 2, 2, 0};
        int[] states = {1, 3, 0, 0, 0, 0};
        for (int n = 0; n < most.length; n++) {
            is("most(" + n + ")", x.most(n), most[n]);
            if (states[n] > 0) {
                rowIs(x, states[n]);
            }
        }
        is("most(60)", x.most(60), 0);
        int row = x.row(0);
        is("most(61)", x.most(61), -1);
        is("most(-1)", x.most(-1), -1);
        rowIs(x, row);
        EachBringsAnother one = of("1!");
        is("most(60)", one.most(60), 0);
        rowIs(one, 1);
        EachBringsAnother none = new EachBringsAnother();
        is("nobody stays nobody", none.most(60), 0);
        rowIs(none, 1);
        EachBringsAnother strangers = of("1;2a");
        is("nobody ever is a GUEST", strangers.most(1), 0);
        rowIs(strangers, 1);
        promise = 21;
        is("reach(0)", x.reach(0), 1);
        rowIs(x, 1);
        is("reach(1)", x.reach(1), 7);
        rowIs(x, 1);
        is("reach(2)", x.reach(2), 15);
        rowIs(x, 0);
        is("reach(5)", x.reach(5), 0);
        rowIs(x, 0);
        is("reach(61)", x.reach(61), -1);
        promise = 22;
        is("fewest(0)", x.fewest(0), 1);
        is("fewest(1)", x.fewest(1), 2);
        is("fewest(4)", x.fewest(4), 2);
        is("fewest(5)", x.fewest(5), -2);
        is("fewest(-1)", x.fewest(-1), -1);
        is("LATE ones are GUESTS", of("1!;2!", 3, 10).fewest(2), 2);
    }

    private static void crowdAndBoth() {
        promise = 23;
        EachBringsAnother x = of(Feasts.FIVE);
        is("crowd", x.crowd(), 2);
        rowIs(x, 4, 9);
        x.law(1, 3);
        is("three SEATS", x.crowd(), 1);
        rowIs(x, 2, 2);
        EachBringsAnother y = of("1!;9a;2a;3b;4c", 2, 10);
        is("crowd", y.crowd(), 3);
        rowIs(y, 5, 18);
        EachBringsAnother z = of("1!;2!");
        is("just now", z.crowd(), 0);
        rowIs(z, 2, 0);
        EachBringsAnother none = of("1;2a");
        is("nobody ever", none.crowd(), 0);
        rowIs(none, 0, 0);
        promise = 24;
        x.law(1, 10);
        is("both(1, 2, 2)", x.both(1, 2, 2), 9);
        is("both(2, 1, 2)", x.both(2, 1, 2), 9);
        is("both(0, 1, 1)", x.both(0, 1, 1), 2);
        is("both(0, 1, 0)", x.both(0, 1, 0), -2);
        is("both(0, 3, 2)", x.both(0, 3, 2), 9);
        is("both(0, 4, 3)", x.both(0, 4, 3), -2);
        is("both(0, 0, 1)", x.both(0, 0, 1), -1);
        is("both(0, 5, 1)", x.both(0, 5, 1), -1);
        is("both(-1, 0, 1)", x.both(-1, 0, 1), -1);
        is("both(0, 1, 61)", x.both(0, 1, 61), -1);
        is("both(0, 1, -1)", x.both(0, 1, -1), -1);
        Feasts.week(x, "a>b");
        is("from now on", x.both(0, 1, 0), 0);
    }

    private static void lastAndBegin() {
        promise = 25;
        EachBringsAnother x = of(Feasts.FIVE);
        is("last", x.last(), 4);
        rowIs(x, 2);
        is("WEEKS that went by are none of it", Feasts.week(x, "a>b"), 2);
        is("last", x.last(), 3);
        EachBringsAnother alone = of("1!;2!", 3, 10);
        is("last", alone.last(), 2);
        rowIs(alone, 2);
        alone.law(0, 1);
        is("just now", alone.last(), 0);
        rowIs(alone, 2);
        is("nobody", of("1;2a").last(), -2);
        promise = 26;
        EachBringsAnother y = of(Feasts.FIVE);
        is("begin", y.begin(), 1);
        rowIs(y, 1);
        is("last() is 0", alone.begin(), -2);
        is("nobody is a GUEST", of("1;2a").begin(), -2);
        EachBringsAnother late = of("1!;2a", 3, 10);
        is("best is to wait", late.begin(), 0);
        rowIs(late);
        is("so long", late.last(), 5);
        EachBringsAnother two = of("1!;2!;3a;4b;5c");
        is("both have to, or the way that lasts", two.begin(), 1);
        rowIs(two, 2);
        EachBringsAnother sits = of("1!;2!;3ab;4ab", 1, 2);
        is("no SEATS for two PAIRS", sits.begin(), 1);
        rowIs(sits, 2);
    }

    private static void cheapest() {
        promise = 27;
        EachBringsAnother x = of(Feasts.FIVE);
        int[] due = {0, 2, 5, 9, 14, -2};
        for (int n = 0; n < due.length; n++) {
            is("cheap(" + n + ")", x.cheap(n), due[n]);
        }
        is("cheap(0)", x.cheap(0), 0);
        rowIs(x);
        is("cheap(1)", x.cheap(1), 2);
        rowIs(x, 1);
        is("cheap(60)", x.cheap(60), -2);
        is("cheap(61)", x.cheap(61), -1);
        is("cheap(-1)", x.cheap(-1), -1);
        rowIs(x, 1);
        is("nobody is a GUEST", of("1").cheap(0), -2);
        EachBringsAnother y = of("1!;9a;3a;4b;2a", 2, 10);
        is("one WEEK is free", y.cheap(1), 0);
        rowIs(y);
        is("three", y.cheap(3), 2);
        rowIs(y);
        is("four", y.cheap(4), 5);
        rowIs(y);
        is("six", y.cheap(6), 14);
        rowIs(y);
        is("nine", y.cheap(9), 18);
        rowIs(y);
        Feasts.week(y, "");
        is("LATE 1", y.cheap(1), 2);
        rowIs(y, 4);
        is("of ways as cheap the least that lasts", y.cheap(8), 18);
        rowIs(y, 2);
        is("from now on", y.cheap(0), 0);
        EachBringsAnother z = of("1!;2!;5a;5b;0a");
        is("a free one needs not come", z.cheap(1), 0);
        rowIs(z, 4);
        is("two", z.cheap(2), 5);
        rowIs(z, 2);
        EachBringsAnother free = of("1!;0a;0a", 1, 10);
        is("the least row of equal ones", free.cheap(1), 0);
        rowIs(free, 1);
        free.law(0, 2);
        is("none ahead of it", free.cheap(1), 0);
        rowIs(free);
    }

    /** The last STATE of all (nobody is a GUEST any more) has a place that a STATE with GUESTS had ahead of it. */
    private static void nothingOfAnEarlierSearch() {
        EachBringsAnother x = of("0!;0!;0!;0ab;0bc");
        for (int grace = 3; grace > 1; grace--) {
            x.law(0, grace);
            is("all of them", x.stays(1), 3 * grace - 1);
            is("begin", x.begin(), 0);
            x.law(0, 1);
            is("b brings d, then e", x.stays(1), 2);
            rowIs(x, 3);
        }
    }

    private static void staying() {
        promise = 28;
        EachBringsAnother x = of(Feasts.FIVE);
        is("stays(0)", x.stays(0), 2);
        rowIs(x, 1);
        is("a STRANGER", x.stays(1), -2);
        is("none such", x.stays(5), -1);
        is("none such", x.stays(-1), -1);
        rowIs(x, 1);
        EachBringsAnother y = of("1!;2a;3a", 2, 10);
        is("stays(0)", y.stays(0), 5);
        rowIs(y, -1);
        EachBringsAnother z = of("1!;2!;3a;4b");
        z.hide(2, true);
        is("it can't", z.stays(0), 0);
        rowIs(z, -1);
        is("b brings d", z.stays(1), 1);
        rowIs(z, 3);
        z.hide(2, false);
        z.meet(0, 3, true);
        is("a brings c, then d", z.stays(0), 2);
        rowIs(z, 2);
        EachBringsAnother seats = of("1;2a!;3!", 2, 2);
        is("no SEAT while c is one", seats.stays(1), 3);
        rowIs(seats, -1);
        Feasts.week(seats, "");
        is("now there is", seats.stays(1), 2);
        rowIs(seats, 0);
        EachBringsAnother three = of("1;2a!;3!;4c", 1, 3);
        is("with others that bring nobody", three.stays(1), 1);
        rowIs(three, 0);
        three.law(1, 1);
        is("no SEAT", three.stays(1), 0);
        rowIs(three, -1);
        nothingOfAnEarlierSearch();
        promise = 29;
        is("it is", x.soonest(0), 0);
        is("soonest(1)", x.soonest(1), 1);
        is("soonest(4)", x.soonest(4), 3);
        is("none such", x.soonest(5), -1);
        is("none such", x.soonest(-1), -1);
        x.hide(3, true);
        is("never", x.soonest(4), -2);
        Feasts.week(x, "");
        is("OUT", x.soonest(0), -2);
    }

    private static void withoutOne() {
        promise = 30;
        EachBringsAnother x = of(Feasts.FIVE);
        int[] worth = {-1, 1, 1, 2, 1, -1};
        for (int p = 0; p < worth.length; p++) {
            is("worth(" + p + ")", x.worth(p), worth[p]);
        }
        is("worth(-1)", x.worth(-1), -1);
        x.hide(4, true);
        is("HIDDEN", x.worth(4), -1);
        is("nobody is a GUEST", of("1;2a").worth(0), -2);
        is("of no use", of("1!;2a;3").worth(2), 0);
        promise = 31;
        EachBringsAnother y = of(Feasts.FIVE);
        is("needed", y.needed(), 30);
        y.hide(4, true);
        is("needed", y.needed(), 14);
        is("needed", of("1!;2a;3").needed(), 2);
        is("none is", of("1!;2").needed(), 0);
        is("nobody is a GUEST", of("1;2a").needed(), -2);
        promise = 32;
        is("never", y.never(), 16);
        y.hide(3, true);
        is("never", y.never(), 24);
        y.law(1, 1);
        is("one SEAT", y.never(), 30);
        is("all can", of(Feasts.FIVE).never(), 0);
        is("nobody is a GUEST", of("1;2a").never(), 3);
        is("nobody", new EachBringsAnother().never(), 0);
    }

    private static void bounds() {
        promise = 31;
        is("the first one", of("1;2a!").needed(), 1);
        promise = 33;
        EachBringsAnother x = of(Feasts.FIVE);
        is("bound", x.bound(), 4);
        x.law(0, 3);
        is("bound", x.bound(), 14);
        Feasts.week(x, "");
        is("LATE 1", x.bound(), 13);
        Feasts.week(x, "");
        is("LATE 2", x.bound(), 12);
        x.law(0, 2);
        is("1 at least", x.bound(), 8);
        x.hide(3, true);
        is("behind a HIDDEN one", x.bound(), 4);
        Feasts.week(x, "");
        is("nobody is a GUEST", x.bound(), -2);
        EachBringsAnother y = of("1!;2a!;3b;4", 2, 10);
        Feasts.week(y, "b>c");
        is("the least LATE", y.bound(), 1);
        is("one that none knows", y.count(3), 8);
        promise = 34;
        EachBringsAnother z = of("1!;2!;3a;4b;5cd;6e;7?");
        z.meet(5, 6, true);
        is("a GUEST", z.far(1), 0);
        rowIs(z);
        is("near", z.far(2), 1);
        rowIs(z);
        is("two steps", z.far(4), 2);
        rowIs(z, 2);
        is("three steps", z.far(5), 3);
        rowIs(z, 2, 4);
        is("HIDDEN", z.far(6), -2);
        is("none such", z.far(7), -1);
        is("none such", z.far(-1), -1);
        rowIs(z, 2, 4);
        z.hide(2, true);
        is("the other way", z.far(5), 3);
        rowIs(z, 3, 4);
        z.hide(3, true);
        is("none leads there", z.far(5), -2);
        Feasts.week(z, "");
        is("OUT", z.far(0), -2);
        EachBringsAnother chain = of("0!;0a;0b;0c;0d;0e;0f;0g;0h;0i");
        is("the longest", chain.far(9), 9);
        rowIs(chain, 1, 2, 3, 4, 5, 6, 7, 8);
    }

    private static EachBringsAnother family() {
        EachBringsAnother x = of("1!;2a;3a;4bc;5d;6!;7f", 3, 10);
        Feasts.week(x, "a>c;f>g");
        Feasts.week(x, "a>b;c>d");
        Feasts.week(x, "d>e");
        return x;
    }

    private static void whoLedWhom() {
        EachBringsAnother x = family();
        promise = 35;
        is("line(0)", x.line(0), 0);
        rowIs(x);
        is("line(4)", x.line(4), 3);
        rowIs(x, 0, 2, 3);
        is("none such", x.line(7), -1);
        is("none such", x.line(-1), -1);
        rowIs(x, 0, 2, 3);
        EachBringsAnother first = of("1;2a!;3a");
        Feasts.week(first, "b>a");
        Feasts.week(first, "a>c");
        is("line(2)", first.line(2), 2);
        rowIs(first, 1, 0);
        promise = 36;
        is("led(1)", first.led(1), 5);
        rowIs(first, 1, 2);
        is("led(0)", x.led(0), 0b11110);
        rowIs(x, 2, 3);
        is("led(2)", x.led(2), 0b11000);
        rowIs(x, 1, 2);
        is("led(4)", x.led(4), 0);
        rowIs(x, 0, 0);
        is("none such", x.led(7), -1);
        is("none such", x.led(-1), -1);
        promise = 37;
        int[] was = {0b100001, 0b1100101, 0b1101111, 0b1111111};
        for (int w = 0; w < 4; w++) {
            is("was(" + w + ")", x.was(w), was[w]);
        }
        is("was(4)", x.was(4), -1);
        is("was(-1)", x.was(-1), -1);
        promise = 38;
        is("common(1, 4)", x.common(1, 4), 0);
        is("common(4, 2)", x.common(4, 2), 2);
        is("common(2, 4)", x.common(2, 4), 2);
        is("common(3, 4)", x.common(3, 4), 3);
        is("common(5, 6)", x.common(5, 6), 5);
        is("none", x.common(4, 6), -2);
        is("like ones", x.common(4, 4), -1);
        is("none such", x.common(4, 7), -1);
        is("none such", x.common(-1, 4), -1);
        promise = 39;
        is("father", x.father(), 0);
        rowIs(x, 4);
        is("undo", x.undo(), 2);
        is("father", x.father(), 0);
        rowIs(x, 3);
        x.undo();
        is("of equal ones the first", x.father(), 0);
        rowIs(x, 1);
        x.undo();
        is("nobody led anybody", x.father(), -2);
        rowIs(x, 1);
    }

    private static void kept() {
        keptUnderANumber();
        counted();
        rows();
    }

    private static void keptUnderANumber() {
        promise = 40;
        EachBringsAnother x = of("1!;2a;3b", 2, 10);
        is("keep(-1)", x.keep(-1), false);
        is("keep(2)", x.keep(2), false);
        is("keep(0)", x.keep(0), true);
        Feasts.week(x, "a>b");
        x.hide(2, true);
        x.law(0, 3);
        x.law(1, 4);
        is("keep(1)", x.keep(1), true);
        Feasts.week(x, "");
        x.hide(2, false);
        x.sheet(2, 3, 8, 0);
        x.meet(0, 2, true);
        promise = 41;
        is("again(0)", x.again(0), true);
        is("GUESTS", x.count(2), 1);
        is("WEEKS", x.count(1), 0);
        is("was(1)", x.was(1), -1);
        is("paid", x.count(5), 0);
        is("BROUGHT", x.of(1, 5), -1);
        is("GRACE", x.law(0, 2), 2);
        is("SEATS", x.law(1, 10), 10);
        is("no WEEK can be undone", x.undo(), -1);
        is("PRICE stays", x.of(1, 0), 8);
        is("KNOWS stays", x.of(0, 1), 6);
        is("again(1)", x.again(1), true);
        is("GUESTS", x.count(2), 3);
        is("WEEKS", x.count(1), 1);
        is("was(0)", x.was(0), 1);
        is("was(1)", x.was(1), 3);
        is("paid", x.count(5), 2);
        is("BROUGHT", x.of(1, 5), 0);
        is("HIDDEN", x.count(9), 4);
        is("GRACE", x.law(0, 3), 3);
        is("SEATS", x.law(1, 4), 4);
        is("as often as one likes", x.again(1), true);
        is("again(2)", x.again(2), false);
        is("again(-1)", x.again(-1), false);
        is("nothing kept", of("1!").again(0), false);
        x.baby(0);
        is("PEOPLE came since", x.again(0), false);
        is("PEOPLE came since", x.again(1), false);
        is("keep(1)", x.keep(1), true);
        is("again(1)", x.again(1), true);
        Feasts.week(x, "");
        is("refused", x.again(0), false);
        is("a refused one lets it be undone", x.undo(), 1);
        EachBringsAnother sixty = of("1!", 3, 10);
        for (int k = 0; k < 58; k++) {
            Feasts.week(sixty, "");
        }
        Feasts.land(sixty, "1!");
        sixty.keep(0);
        is("goes", sixty.goes(60), 2);
        sixty.keep(1);
        is("again", sixty.again(0), true);
        sixty.law(0, 1);
        Feasts.week(sixty, "");
        Feasts.week(sixty, "");
        is("was(60)", sixty.was(60) + sixty.was(59), 0);
        is("again", sixty.again(1), true);
        is("was(59)", sixty.was(59), 2);
        is("was(60)", sixty.was(60), 2);
        is("was(2)", sixty.was(2), 1);
        is("LATE", sixty.of(1, 4), 2);
        EachBringsAnother other = of("1!;2a");
        other.keep(0);
        Feasts.week(other, "a>b");
        is("soonest(1)", other.soonest(1), 0);
        is("again", other.again(0), true);
        is("soonest(1)", other.soonest(1), 1);
        EachBringsAnother nobody = new EachBringsAnother();
        is("keep nobody", nobody.keep(1), true);
        Feasts.week(nobody, "");
        is("again", nobody.again(1), true);
        is("WEEKS", nobody.count(1), 0);
    }

    private static void counted() {
        promise = 42;
        EachBringsAnother x = of("1!;2a;3a?;4!", 1, 10);
        Feasts.week(x, "a>b");
        x.can();
        x.sign(0);
        int[] due = {4, 1, 0b0011, 0b0100, 0b1000, 2, 1, 1, 4, 0b0100};
        for (int what = 0; what < due.length; what++) {
            is("count(" + what + ")", x.count(what), due[what]);
        }
        is("count(10)", x.count(10), -1);
        is("count(-1)", x.count(-1), -1);
        is("count(MAX)", x.count(Integer.MAX_VALUE), -1);
    }

    private static void rows() {
        promise = 43;
        EachBringsAnother x = of(Feasts.FIVE);
        throwsNone("row(0) at first", () -> x.row(0));
        x.goes(0);
        is("row(0)", x.row(0), 1);
        is("row(1)", x.row(1), 0);
        throwsNone("row(2)", () -> x.row(2));
        throwsNone("row(-1)", () -> x.row(-1));
        throwsNone("row(MIN)", () -> x.row(Integer.MIN_VALUE));
        x.most(61);
        is("stays with NONE", x.row(1), 0);
        x.cheap(60);
        is("stays with -2", x.row(1), 0);
        Feasts.week(x, "x");
        is("stays", x.count(7), 2);
        x.far(0);
        throwsNone("an empty ROW", () -> x.row(0));
    }
}
