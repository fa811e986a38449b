import java.util.NoSuchElementException;

/** Feasts to test with, and what is told to them. */
final class Feasts {
    /** A GUEST a (PRICE 1) and STRANGERS b .. e (2 .. 5): a KNOWS b and c, d KNOWS b and c, e KNOWS d. */
    static final String FIVE = "1!;2a;3a;4bc;5d";

    /** Nine who all know each other: with GRACE 3 there are far too many STATES. */
    static final String CROWD = "1!;1a!;1ab;1abc;1abcd;1abcde;1abcdef;1abcdefg;1abcdefgh";

    /** Each of ten but the first knows the one ahead of it. */
    static final String CHAIN = "0!;0a;0b;0c;0d;0e;0f;0g;0h;0i";

    private Feasts() {
    }

    static void tell(EachBringsAnother x, String text) {
        StringBuilder padded = new StringBuilder(text);
        while (padded.length() % 4 != 0) {
            padded.append('?');
        }
        x.end(0);
        for (int k = 0; k < padded.length(); k += 4) {
            x.sign(padded.charAt(k) << 24 | padded.charAt(k + 1) << 16 | padded.charAt(k + 2) << 8 | padded.charAt(k + 3));
        }
        x.end(text.length());
    }

    static int land(EachBringsAnother x, String text) {
        tell(x, text);
        return x.land();
    }

    static int rule(EachBringsAnother x, String text) {
        tell(x, text);
        return x.rule();
    }

    static int week(EachBringsAnother x, String text) {
        tell(x, text);
        return x.week();
    }

    /** WEEKS in which nobody brings anybody. */
    static void pass(EachBringsAnother x, int weeks) {
        for (int k = 0; k < weeks; k++) {
            week(x, "");
        }
    }

    static EachBringsAnother feast(String land) {
        EachBringsAnother x = new EachBringsAnother();
        if (land(x, land) != land.split(";").length) {
            throw new IllegalStateException("THE LAND " + land + " is not taken");
        }
        return x;
    }

    static EachBringsAnother feast(String land, int grace, int seats) {
        EachBringsAnother x = feast(land);
        x.law(0, grace);
        x.law(1, seats);
        return x;
    }

    static EachBringsAnother feastBy(String rule, String land) {
        EachBringsAnother x = feast(land);
        if (rule(x, rule) != 0) {
            throw new IllegalStateException("THE RULE " + rule + " is not taken");
        }
        return x;
    }

    static EachBringsAnother just3000States() {
        return feast("1!;1a;1b;1b;1a;1abcd;1bcde", 3, 4);
    }

    static EachBringsAnother just3001States() {
        return feast("1!;1a;1a;1ab;1abc;1abcd;1cde;1adefg", 2, 3);
    }

    static boolean throwsNone(Runnable call) {
        try {
            call.run();
            return false;
        } catch (NoSuchElementException e) {
            return true;
        }
    }

    /** All that can be asked without a change, THE TEXT aside; law() alone can't be asked without one, so it is put back. */
    static String picture(EachBringsAnother x) {
        StringBuilder s = new StringBuilder("counts");
        for (int what = 0; what <= 9; what++) {
            s.append(' ').append(what == 8 ? 0 : x.count(what));
        }
        for (int p = 0; p < x.count(0); p++) {
            s.append("; ").append((char) ('a' + p)).append(" picks ").append(x.picks(p)).append(" is");
            for (int what = 0; what <= 6; what++) {
                s.append(' ').append(x.of(p, what));
            }
        }
        s.append("; was");
        for (int w = 0; w <= x.count(1); w++) {
            s.append(' ').append(x.was(w));
        }
        s.append("; THE LAW");
        for (int what = 0; what <= 1; what++) {
            int v = x.law(what, 1);
            x.law(what, v);
            s.append(' ').append(v);
        }
        return s.append("; THE ROW ").append(row(x)).toString();
    }

    static String row(EachBringsAnother x) {
        StringBuilder s = new StringBuilder();
        for (int i = 0; i < x.count(7); i++) {
            s.append(i == 0 ? "" : " ").append(x.row(i));
        }
        return s.toString();
    }
}
