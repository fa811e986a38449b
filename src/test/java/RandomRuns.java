import java.util.ArrayList;
import java.util.List;
import java.util.NoSuchElementException;
import java.util.Random;

/** Long runs of calls, drawn with fixed seeds, that the class and PlainFeast have to answer alike. */
public final class RandomRuns {
    private static final int MOST_CALLS = 512;
    private static final int MOST_CALLS_OF_A_STEP = 64;

    private final Random random;
    private final EachBringsAnother x = new EachBringsAnother();
    private final PlainFeast y = new PlainFeast();
    private final List<String> log = new ArrayList<>();
    private final int people;
    private int used;

    private RandomRuns(long seed) {
        random = new Random(seed);
        people = random.nextInt(3) == 0 ? 10 : 4 + random.nextInt(5);
    }

    public static void main(String[] args) {
        int runs = args.length > 0 ? Integer.parseInt(args[0]) : 400;
        int from = args.length > 1 ? Integer.parseInt(args[1]) : 0;
        int failed = 0;
        for (int seed = from; seed < from + runs; seed++) {
            String wrong = new RandomRuns(seed).run();
            if (wrong != null) {
                failed++;
                System.out.println("seed " + seed + ": " + wrong);
                if (failed > 5) {
                    break;
                }
            }
        }
        System.out.println("RandomRuns: " + (runs - failed) + " passed, " + failed + " failed");
        if (failed > 0) {
            System.exit(1);
        }
    }

    /** What an object answers behind its 512th call is free. */
    private EachBringsAnother x() {
        used++;
        return x;
    }

    private String run() {
        int all = random.nextInt(3) == 0 ? MOST_CALLS : 150 + random.nextInt(150);
        while (used + MOST_CALLS_OF_A_STEP < all) {
            int before = used;
            try {
                if (used == 0 || y.count(0) == 0 && random.nextInt(4) > 0) {
                    found();
                } else if (y.count(2) == 0 && random.nextInt(8) > 0) {
                    revive();
                } else {
                    step();
                }
                compareRows();
            } catch (IllegalStateException e) {
                return behind(e.getMessage());
            } catch (RuntimeException e) {
                return behind("threw " + e);
            }
            if (used - before > MOST_CALLS_OF_A_STEP) {
                return behind("a step of " + (used - before) + " calls");
            }
        }
        return null;
    }

    private String behind(String wrong) {
        return wrong + " behind " + log.subList(Math.max(0, log.size() - 12), log.size()) + " " + y;
    }

    private void compareRows() {
        for (int k = 0; k < 3; k++) {
            int what = random.nextInt(10);
            same("count(" + what + ")", x().count(what), y.count(what));
        }
        same("count(7)", x().count(7), y.count(7));
        for (int i = 0; i < y.count(7); i++) {
            same("row(" + i + ")", x().row(i), y.row(i));
        }
    }

    private void same(String call, int a, int b) {
        log.add(call + " = " + a + (a == b ? "" : " != " + b));
        if (a != b) {
            throw new IllegalStateException("answers differ");
        }
    }

    private void same(String call, boolean a, boolean b) {
        same(call, a ? 1 : 0, b ? 1 : 0);
    }

    /** A number in a range, sometimes a little or far out of it. */
    private int number(int from, int to) {
        switch (random.nextInt(24)) {
            case 0:
                return from - 1;
            case 1:
                return to + 1;
            case 2:
                return random.nextInt(3) == 0 ? random.nextInt() : to;
            case 3:
                return from;
            default:
                return from + random.nextInt(to - from + 1);
        }
    }

    private int person() {
        int p = number(0, Math.max(0, y.count(0) - 1));
        int some = y.count(random.nextBoolean() ? 2 : 3);
        boolean as = random.nextInt(3) > 0;
        return as && p >= 0 && p < 10 && (some >> p & 1) == 0 && some != 0 ? Integer.numberOfTrailingZeros(some) : p;
    }

    private int weeks() {
        return random.nextInt(8) == 0 ? number(0, 60) : number(0, random.nextBoolean() ? 3 : 9);
    }

    private void tell(String t) {
        x().end(0);
        y.end(0);
        StringBuilder padded = new StringBuilder(t);
        while (padded.length() % 4 != 0) {
            padded.append((char) random.nextInt(256));
        }
        for (int k = 0; k + 4 <= padded.length(); k += 4) {
            int v = padded.charAt(k) << 24 | padded.charAt(k + 1) << 16 | padded.charAt(k + 2) << 8 | padded.charAt(k + 3);
            same("sign", x().sign(v), y.sign(v));
        }
        same("end(" + t.length() + ") of " + t, x().end(t.length()), y.end(t.length()));
    }

    /** Sometimes a sign is changed, taken away or put in. */
    private String spoil(String t) {
        if (random.nextInt(6) != 0) {
            return t;
        }
        StringBuilder s = new StringBuilder(t);
        String signs = "abcdefghijk0123456789!?;><=+-*/()ipksglnw,";
        for (int k = random.nextInt(2); k >= 0; k--) {
            int at = random.nextInt(s.length() + 1);
            char c = random.nextInt(8) == 0 ? (char) random.nextInt(256) : signs.charAt(random.nextInt(signs.length()));
            int how = random.nextInt(4);
            if (how == 0 && at < s.length()) {
                s.deleteCharAt(at);
            } else if (how == 1 && at < s.length()) {
                s.setCharAt(at, c);
            } else if (how == 2) {
                s.insert(at, c);
            } else {
                s.setLength(at);
            }
        }
        return s.length() > 80 ? s.substring(0, 80) : s.toString();
    }

    private String landText(boolean all) {
        StringBuilder s = new StringBuilder();
        int ahead = y.count(0);
        int lines = all ? people - ahead : 1 + random.nextInt(Math.max(1, people - ahead));
        int dense = 1 + random.nextInt(people > 7 && all ? 3 : 5);
        for (int k = 0; k < lines; k++) {
            s.append(k == 0 ? "" : ";").append(random.nextInt(10));
            for (int other = 0; other < ahead + k; other++) {
                s.append(random.nextInt(6) < dense ? String.valueOf((char) ('a' + other)) : "");
            }
            s.append(random.nextInt(3) == 0 || all && k == 0 ? "!" : "").append(random.nextInt(8) == 0 ? "?" : "");
        }
        return s.length() > 80 ? s.substring(0, 80) : s.toString();
    }

    private String expression(int deep) {
        StringBuilder s = new StringBuilder();
        int things = 1 + random.nextInt(3);
        for (int k = 0; k < things; k++) {
            if (k > 0) {
                s.append("+-*/<>=+-*".charAt(random.nextInt(10)));
            }
            while (random.nextInt(5) == 0) {
                s.append('-');
            }
            int kind = random.nextInt(deep < 5 ? 6 : 5);
            if (kind < 2) {
                s.append(random.nextInt(random.nextBoolean() ? 10 : random.nextInt(8) == 0 ? 1100 : 30));
            } else if (kind < 5) {
                s.append("ipksglnw".charAt(random.nextInt(8)));
            } else {
                s.append('(').append(expression(deep + 1)).append(')');
            }
        }
        return s.length() > 80 ? s.substring(0, 80) : s.toString();
    }

    /** PAIRS of which most can be. */
    private String weekText() {
        if (random.nextInt(10) == 0) {
            char one = (char) ('a' + random.nextInt(people));
            return one + ">" + (char) ('a' + random.nextInt(people));
        }
        int guests = y.count(2);
        int strangers = y.count(3);
        StringBuilder s = new StringBuilder();
        for (int one = 0; one < 10; one++) {
            if ((guests >> one & 1) == 0 || random.nextInt(3) == 0) {
                continue;
            }
            int known = y.of(one, 1) & strangers;
            for (int other = 0; other < 10; other++) {
                if ((known >> other & 1) != 0 && random.nextInt(2) == 0) {
                    s.append(s.length() == 0 ? "" : ";").append((char) ('a' + one)).append('>')
                        .append((char) ('a' + other));
                    strangers &= random.nextInt(12) == 0 ? -1 : ~(1 << other);
                    break;
                }
            }
        }
        return s.toString();
    }

    /** A LAND to begin with, that is kept. */
    private void found() {
        tell(landText(random.nextInt(4) > 0));
        same("land", x().land(), y.land());
        int v = 1 + random.nextInt(3);
        same("law(0," + v + ")", x().law(0, v), y.law(0, v));
        same("keep(0)", x().keep(0), y.keep(0));
    }

    /** Somebody may be a GUEST again. */
    private void revive() {
        int i = random.nextInt(2);
        switch (random.nextInt(3)) {
            case 0:
                same("undo", x().undo(), y.undo());
                break;
            case 1:
                same("again(" + i + ")", x().again(i), y.again(i));
                break;
            default:
                if (y.count(0) == 10) {
                    same("undo", x().undo(), y.undo());
                } else {
                    tell(random.nextInt(10) + (random.nextBoolean() ? "a!" : "!"));
                    same("land", x().land(), y.land());
                }
        }
    }

    private void step() {
        switch (random.nextInt(16)) {
            case 0:
                if (random.nextInt(3) == 0) {
                    people();
                } else {
                    change();
                }
                break;
            case 1:
            case 2:
                change();
                break;
            case 3:
                weeksGo();
                break;
            case 4:
            case 5:
            case 6:
            case 7:
                next();
                break;
            case 8:
            case 9:
            case 10:
            case 11:
            case 12:
                search();
                break;
            case 13:
                bounds();
                break;
            case 14:
                trees();
                break;
            default:
                kept();
        }
    }

    private void people() {
        if (y.count(0) < people && random.nextInt(4) > 0) {
            tell(spoil(landText(false)));
            same("land", x().land(), y.land());
        } else if (random.nextInt(3) == 0) {
            int bits = random.nextInt(4) == 0 ? number(0, 1023) : random.nextInt(1 << y.count(0));
            if (y.count(0) < people || bits >> y.count(0) != 0 || random.nextInt(3) == 0) {
                same("baby(" + bits + ")", x().baby(bits), y.baby(bits));
            } else {
                same("end(0)", x().end(0), y.end(0));
                same("land", x().land(), y.land());
            }
        } else {
            tell(spoil(expression(0)));
            same("rule", x().rule(), y.rule());
        }
    }

    private void change() {
        int p = person();
        int q = person();
        boolean is = random.nextInt(3) > 0;
        boolean hidden = random.nextInt(3) == 0;
        switch (random.nextInt(5)) {
            case 0: {
                int what = number(0, 1);
                int v = number(1, what == 0 ? 3 : 10);
                same("law(" + what + "," + v + ")", x().law(what, v), y.law(what, v));
                break;
            }
            case 1:
                same("meet(" + p + "," + q + "," + is + ")", x().meet(p, q, is), y.meet(p, q, is));
                break;
            case 2:
                same("hide(" + p + "," + hidden + ")", x().hide(p, hidden), y.hide(p, hidden));
                break;
            case 3: {
                int kind = number(0, random.nextInt(4) == 0 ? 3 : 2);
                int n = random.nextInt(4) == 0 ? number(-1, 10) : 10;
                int f = random.nextInt(3) > 0 ? random.nextInt(10) : random.nextInt() >> random.nextInt(28);
                int step = random.nextInt(3) > 0 ? random.nextInt(4) : random.nextInt() >> random.nextInt(28);
                same("sheet(" + kind + "," + n + "," + f + "," + step + ")", x().sheet(kind, n, f, step),
                    y.sheet(kind, n, f, step));
                break;
            }
            default:
                for (int what = -1; what <= 7; what++) {
                    same("of(" + p + "," + what + ")", ofClass(p, what), ofPlain(p, what));
                }
        }
    }

    private int ofClass(int p, int what) {
        try {
            return x().of(p, what);
        } catch (NoSuchElementException e) {
            return -99;
        }
    }

    private int ofPlain(int p, int what) {
        try {
            return y.of(p, what);
        } catch (NoSuchElementException e) {
            return -99;
        }
    }

    private void weeksGo() {
        switch (random.nextInt(6)) {
            case 0:
            case 1:
                tell(spoil(weekText()));
                same("week", x().week(), y.week());
                break;
            case 2: {
                int n = random.nextInt(4) == 0 ? weeks() : number(0, 2);
                same("goes(" + n + ")", x().goes(n), y.goes(n));
                break;
            }
            case 3:
                same("undo", x().undo(), y.undo());
                break;
            default:
                tell(weekText());
                same("week", x().week(), y.week());
        }
    }

    private void next() {
        int p = person();
        switch (random.nextInt(4)) {
            case 0:
                same("can", x().can(), y.can());
                break;
            case 1:
                same("picks(" + p + ")", x().picks(p), y.picks(p));
                break;
            case 2:
                same("pairs", x().pairs(), y.pairs());
                break;
            default:
                same("bars", x().bars(), y.bars());
        }
    }

    private void search() {
        int p = person();
        int q = person();
        int n = weeks();
        switch (random.nextInt(14)) {
            case 0:
                same("states", x().states(), y.states());
                break;
            case 1:
                same("most(" + n + ")", x().most(n), y.most(n));
                break;
            case 2:
                same("reach(" + n + ")", x().reach(n), y.reach(n));
                break;
            case 3:
                same("fewest(" + n + ")", x().fewest(n), y.fewest(n));
                break;
            case 4:
                same("crowd", x().crowd(), y.crowd());
                break;
            case 5:
                same("both(" + p + "," + q + "," + n + ")", x().both(p, q, n), y.both(p, q, n));
                break;
            case 6:
                same("last", x().last(), y.last());
                break;
            case 7:
                same("begin", x().begin(), y.begin());
                break;
            case 8:
                same("cheap(" + n + ")", x().cheap(n), y.cheap(n));
                break;
            case 9:
                same("stays(" + p + ")", x().stays(p), y.stays(p));
                break;
            case 10:
                same("soonest(" + p + ")", x().soonest(p), y.soonest(p));
                break;
            case 11:
                same("worth(" + p + ")", x().worth(p), y.worth(p));
                break;
            case 12:
                same("needed", x().needed(), y.needed());
                break;
            default:
                same("never", x().never(), y.never());
        }
    }

    private void bounds() {
        int p = person();
        if (random.nextBoolean()) {
            same("bound", x().bound(), y.bound());
        } else {
            same("far(" + p + ")", x().far(p), y.far(p));
        }
    }

    private void trees() {
        int p = person();
        int q = person();
        int w = number(0, Math.max(1, y.count(1)));
        switch (random.nextInt(5)) {
            case 0:
                same("line(" + p + ")", x().line(p), y.line(p));
                break;
            case 1:
                same("led(" + p + ")", x().led(p), y.led(p));
                break;
            case 2:
                same("was(" + w + ")", x().was(w), y.was(w));
                break;
            case 3:
                same("common(" + p + "," + q + ")", x().common(p, q), y.common(p, q));
                break;
            default:
                same("father", x().father(), y.father());
        }
    }

    private void kept() {
        int i = number(0, 1);
        if (random.nextInt(4) == 0) {
            i = random.nextInt(3) == 0 ? i : 1;
            same("keep(" + i + ")", x().keep(i), y.keep(i));
        } else {
            same("again(" + i + ")", x().again(i), y.again(i));
        }
    }
}
