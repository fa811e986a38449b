import java.util.ArrayDeque;
import java.util.ArrayList;
import java.util.Arrays;
import java.util.Collections;
import java.util.Deque;
import java.util.HashMap;
import java.util.HashSet;
import java.util.LinkedHashMap;
import java.util.List;
import java.util.Map;
import java.util.NoSuchElementException;
import java.util.Set;
import java.util.TreeSet;

/**
 * The same document once more, as slowly and as plainly as it can be told, to hold the class against: STATES are
 * texts, WEEKS are tried one by one, prefixes of texts are matched by patterns.
 */
final class PlainFeast {
    static final int INFINITE = 1 << 28;

    private final StringBuilder text = new StringBuilder();
    private List<Integer> row = new ArrayList<>();
    private final List<Integer> price = new ArrayList<>();
    private final List<Set<Integer>> knows = new ArrayList<>();
    private int grace = 1;
    private int seats = 10;
    private String rule = "";
    private Now now = new Now();
    private final Deque<Now> undo = new ArrayDeque<>();
    private final Now[] kept = new Now[2];
    private final int[] keptGrace = new int[2];
    private final int[] keptSeats = new int[2];
    /** STRANGERS of whom a search shall think as HIDDEN. */
    private final Set<Integer> alsoHidden = new TreeSet<>();
    private Map<String, Integer> memo = new HashMap<>();

    /** Who is what and what has been: s a STRANGER, 0 .. 2 a GUEST, x OUT. */
    private static final class Now {
        StringBuilder who = new StringBuilder();
        List<Integer> by = new ArrayList<>();
        List<Boolean> hidden = new ArrayList<>();
        List<Integer> guestsBehind = new ArrayList<>(List.of(0));
        int paid;

        Now copy() {
            Now c = new Now();
            c.who.append(who);
            c.by.addAll(by);
            c.hidden.addAll(hidden);
            c.guestsBehind = new ArrayList<>(guestsBehind);
            c.paid = paid;
            return c;
        }
    }

    // ---- small things

    private int size() {
        return price.size();
    }

    private boolean there(int p) {
        return p >= 0 && p < size();
    }

    private static boolean isGuest(String who, int p) {
        return "012".indexOf(who.charAt(p)) >= 0;
    }

    private static int bits(String who, String kinds) {
        int b = 0;
        for (int p = 0; p < who.length(); p++) {
            b |= kinds.indexOf(who.charAt(p)) >= 0 ? 1 << p : 0;
        }
        return b;
    }

    private static int guests(String who) {
        return bits(who, "012");
    }

    private String who() {
        return now.who.toString();
    }

    private boolean canBeBrought(String who, int one, int other) {
        return isGuest(who, one) && who.charAt(other) == 's' && !now.hidden.get(other)
                && !alsoHidden.contains(other) && knows.get(one).contains(other);
    }

    // ---- the land

    int sign(int v) {
        if (text.length() + 4 > 80) {
            return -1;
        }
        for (int k = 3; k >= 0; k--) {
            text.append((char) ((v >>> 8 * k) & 255));
        }
        return text.length();
    }

    boolean end(int n) {
        if (n < 0 || n > text.length()) {
            return false;
        }
        text.setLength(n);
        return true;
    }

    private String takeText() {
        String t = text.toString();
        text.setLength(0);
        return t;
    }

    private interface Grammar {
        boolean begins(String prefix);

        boolean is(String whole);
    }

    private static int wrongAt(String t, int most, Grammar grammar) {
        for (int p = 0; p < t.length(); p++) {
            if (p == most || !grammar.begins(t.substring(0, p + 1))) {
                return p;
            }
        }
        return grammar.is(t) ? -1 : t.length();
    }

    private static boolean isLine(String line, int number) {
        StringBuilder pattern = new StringBuilder("[0-9]");
        for (int k = 0; k < number; k++) {
            pattern.append((char) ('a' + k)).append('?');
        }
        return line.matches(pattern.append("!?\\??").toString());
    }

    private static boolean areLines(String t, int ahead, boolean whole) {
        String[] lines = t.split(";", -1);
        for (int k = 0; k < lines.length; k++) {
            boolean open = !whole && k == lines.length - 1 && lines[k].isEmpty();
            if (!open && (ahead + k >= 10 || !isLine(lines[k], ahead + k))) {
                return false;
            }
        }
        return true;
    }

    int land() {
        String t = takeText();
        if (t.isEmpty()) {
            return 0;
        }
        int ahead = size();
        int wrong = wrongAt(t, 76, new Grammar() {
            public boolean begins(String prefix) {
                return areLines(prefix, ahead, false);
            }

            public boolean is(String whole) {
                return areLines(whole, ahead, true);
            }
        });
        if (wrong >= 0) {
            return -1 - wrong;
        }
        String[] lines = t.split(";");
        for (String line : lines) {
            Set<Integer> known = new TreeSet<>();
            for (char c : line.toCharArray()) {
                if (c >= 'a' && c <= 'j') {
                    known.add(c - 'a');
                }
            }
            come(line.charAt(0) - '0', known, line.contains("!"), line.contains("?"));
        }
        now.guestsBehind.set(now.guestsBehind.size() - 1, guests(who()));
        undo.clear();
        return lines.length;
    }

    private void come(int itsPrice, Set<Integer> known, boolean guest, boolean hidden) {
        int it = size();
        price.add(itsPrice);
        knows.add(known);
        for (int other : known) {
            knows.get(other).add(it);
        }
        now.who.append(guest ? '0' : 's');
        now.hidden.add(hidden);
        now.by.add(-1);
    }

    int rule() {
        String t = takeText();
        if (t.isEmpty()) {
            rule = t;
            return 0;
        }
        int wrong = wrongAt(t, 40, new Grammar() {
            public boolean begins(String prefix) {
                return new Reader(prefix).wrong() >= prefix.length();
            }

            public boolean is(String whole) {
                return new Reader(whole).wrong() == INFINITE;
            }
        });
        if (wrong >= 0) {
            return -1 - wrong;
        }
        rule = t;
        return 0;
    }

    /** Reads an EXPRESSION from the left by its grammar, and works it out on the way. */
    private final class Reader {
        private final String t;
        private int at;
        private int failed = -1;
        private int one;
        private int other;

        Reader(String t) {
            this.t = t;
        }

        /** INFINITE if it is one, else where it fails. */
        int wrong() {
            one = -1;
            compare(0);
            if (failed < 0 && at < t.length()) {
                failed = at;
            }
            return failed < 0 ? INFINITE : failed;
        }

        int value(int bringer, int brought) {
            one = bringer;
            other = brought;
            return compare(0);
        }

        private char peek() {
            return failed < 0 && at < t.length() ? t.charAt(at) : 0;
        }

        private int compare(int deep) {
            int a = sum(deep);
            char c = peek();
            if (c != '<' && c != '>' && c != '=') {
                return a;
            }
            at++;
            int b = sum(deep);
            return (c == '<' ? a < b : c == '>' ? a > b : a == b) ? 1 : 0;
        }

        private int sum(int deep) {
            int a = product(deep);
            while (peek() == '+' || peek() == '-') {
                boolean plus = t.charAt(at++) == '+';
                int b = product(deep);
                a = plus ? a + b : a - b;
            }
            return a;
        }

        private int product(int deep) {
            int a = factor(deep);
            while (peek() == '*' || peek() == '/') {
                boolean times = t.charAt(at++) == '*';
                int b = factor(deep);
                a = times ? a * b : b == 0 ? 0 : a / b;
            }
            return a;
        }

        private int factor(int deep) {
            if (peek() == '-') {
                at++;
                return -factor(deep);
            }
            if (peek() == '(' && deep < 4) {
                at++;
                int v = compare(deep + 1);
                if (peek() != ')') {
                    failed = failed < 0 ? at : failed;
                    return 0;
                }
                at++;
                return v;
            }
            if (Character.isDigit(peek()) && peek() < 128) {
                int from = at;
                while (at < from + 3 && Character.isDigit(peek()) && peek() < 128) {
                    at++;
                }
                return Integer.parseInt(t.substring(from, at));
            }
            if (peek() != 0 && "ipksglnw".indexOf(peek()) >= 0) {
                return letter(t.charAt(at++));
            }
            failed = failed < 0 ? at : failed;
            return 0;
        }

        private int letter(char c) {
            if (one < 0) {
                return 0;
            }
            int known = 0;
            for (int q : knows.get(other)) {
                known |= 1 << q;
            }
            switch (c) {
                case 'i': return other;
                case 'p': return price.get(other);
                case 'k': return Integer.bitCount(known);
                case 's': return Integer.bitCount(known & bits(who(), "s"));
                case 'g': return Integer.bitCount(known & guests(who()));
                case 'l': return now.who.charAt(one) - '0';
                case 'n': return one;
                default: return weeks();
            }
        }
    }

    int of(int person, int what) {
        if (!there(person) || what < 0 || what > 6) {
            throw new NoSuchElementException();
        }
        char c = now.who.charAt(person);
        switch (what) {
            case 0: return price.get(person);
            case 1: return known(person);
            case 2: return now.hidden.get(person) ? 1 : 0;
            case 3: return c == 's' ? 0 : c == 'x' ? 2 : 1;
            case 4: return c == 's' || c == 'x' ? -1 : c - '0';
            case 5: return now.by.get(person);
            default:
                for (int w = 0; w <= weeks(); w++) {
                    if ((now.guestsBehind.get(w) >> person & 1) != 0) {
                        return w;
                    }
                }
                return -1;
        }
    }

    private int known(int p) {
        int b = 0;
        for (int q : knows.get(p)) {
            b |= 1 << q;
        }
        return b;
    }

    int law(int what, int v) {
        int was;
        if (what == 0 && v >= 1 && v <= 3) {
            was = grace;
            grace = v;
        } else if (what == 1 && v >= 1 && v <= 10) {
            was = seats;
            seats = v;
        } else {
            was = -1;
        }
        return was;
    }

    boolean meet(int one, int other, boolean is) {
        if (!there(one) || !there(other) || one == other) {
            return false;
        }
        if (is) {
            knows.get(one).add(other);
            knows.get(other).add(one);
        } else {
            knows.get(one).remove(other);
            knows.get(other).remove(one);
        }
        return true;
    }

    boolean hide(int person, boolean is) {
        if (!there(person)) {
            return false;
        }
        now.hidden.set(person, is);
        return true;
    }

    int baby(int bits) {
        if (size() == 10) {
            return -1;
        }
        Set<Integer> known = new TreeSet<>();
        for (int p = 0; p < 32; p++) {
            if ((bits >> p & 1) != 0) {
                if (!there(p)) {
                    return -1;
                }
                known.add(p);
            }
        }
        come(0, known, false, false);
        undo.clear();
        return size() - 1;
    }

    int sheet(int kind, int n, int f, int step) {
        if (kind < 0 || kind > 3 || n > 10) {
            return -1;
        }
        if (kind < 3 && n < 0) {
            return -2;
        }
        int[] entries = new int[10];
        int v = f;
        for (int k = 0; k < n && kind < 3; k++) {
            entries[k] = kind == 0 ? (byte) v : kind == 1 ? (short) v : v;
            v += step;
        }
        int sum = 0;
        for (int p = 0; p < size(); p++) {
            int it = entries[p] < 0 ? 0 : entries[p] > 9 ? 9 : entries[p];
            price.set(p, it);
            sum += it;
        }
        return kind == 3 ? -3 : sum;
    }

    // ---- weeks

    private int weeks() {
        return now.guestsBehind.size() - 1;
    }

    int week() {
        String t = takeText();
        String pair = "[a-j]>[a-j]";
        if (!t.isEmpty()) {
            int wrong = wrongAt(t, 40, new Grammar() {
                public boolean begins(String prefix) {
                    String filled = prefix + "a>a".substring(Math.min(3, prefix.length() % 4));
                    return filled.matches("(" + pair + ";)*" + pair + ";?");
                }

                public boolean is(String whole) {
                    return whole.matches("(" + pair + ";)*" + pair);
                }
            });
            if (wrong >= 0) {
                return -1 - wrong;
            }
        }
        if (weeks() == 60) {
            return -300;
        }
        String[] told = t.isEmpty() ? new String[0] : t.split(";");
        List<int[]> pairs = new ArrayList<>();
        for (String p : told) {
            int one = p.charAt(0) - 'a';
            int other = p.charAt(2) - 'a';
            boolean can = there(one) && there(other) && canBeBrought(who(), one, other);
            for (int[] q : pairs) {
                can &= q[0] != one && q[1] != other;
            }
            if (!can) {
                return -100 - pairs.size();
            }
            pairs.add(new int[] {one, other});
        }
        if (!mayBe(who(), pairs)) {
            return -200;
        }
        return pass(pairs);
    }

    private boolean mayBe(String who, List<int[]> pairs) {
        return pairs.isEmpty() || Integer.bitCount(guests(after(who, pairs))) <= seats;
    }

    private String after(String who, List<int[]> pairs) {
        char[] then = who.toCharArray();
        for (int p = 0; p < then.length; p++) {
            if (isGuest(who, p)) {
                int late = then[p] - '0' + 1;
                then[p] = late >= grace ? 'x' : (char) ('0' + late);
            }
        }
        for (int[] pair : pairs) {
            then[pair[0]] = '0';
            then[pair[1]] = '0';
        }
        return new String(then);
    }

    private int cost(List<int[]> pairs) {
        int sum = 0;
        for (int[] pair : pairs) {
            sum += price.get(pair[1]);
        }
        return sum;
    }

    private int pass(List<int[]> pairs) {
        Now before = now.copy();
        undo.push(before);
        String then = after(who(), pairs);
        now.who = new StringBuilder(then);
        for (int[] pair : pairs) {
            now.by.set(pair[1], pair[0]);
        }
        now.paid += cost(pairs);
        now.guestsBehind.add(guests(then));
        return cost(pairs);
    }

    private List<int[]> byRule() {
        List<int[]> pairs = new ArrayList<>();
        for (int one = 0; one < size(); one++) {
            int best = -1;
            int greatest = 0;
            for (int other = 0; other < size(); other++) {
                boolean open = canBeBrought(who(), one, other);
                for (int[] q : pairs) {
                    open &= q[1] != other;
                }
                if (open) {
                    int v = rule.isEmpty() ? 0 : new Reader(rule).value(one, other);
                    if (best < 0 || v > greatest) {
                        best = other;
                        greatest = v;
                    }
                }
            }
            if (best >= 0 && greatest >= 0) {
                pairs.add(new int[] {one, best});
                if (!mayBe(who(), pairs)) {
                    pairs.remove(pairs.size() - 1);
                }
            }
        }
        return pairs;
    }

    int goes(int n) {
        if (n < 0 || n > 60) {
            return -1;
        }
        int k = 0;
        int cost = 0;
        while (k < n && guests(who()) != 0 && weeks() < 60) {
            cost += pass(byRule());
            k++;
        }
        row = List.of(guests(who()), cost);
        return k;
    }

    int undo() {
        if (undo.isEmpty()) {
            return -1;
        }
        List<Boolean> hidden = now.hidden;
        now = undo.pop();
        now.hidden = hidden;
        return weeks();
    }

    int can() {
        int bringers = 0;
        int brought = 0;
        for (int one = 0; one < size(); one++) {
            for (int other = 0; other < size(); other++) {
                if (canBeBrought(who(), one, other) && mayBe(who(), List.of(new int[] {one, other}))) {
                    bringers |= 1 << one;
                    brought |= 1 << other;
                }
            }
        }
        row = List.of(brought);
        return bringers;
    }

    int picks(int person) {
        if (!there(person) || !isGuest(who(), person)) {
            return -1;
        }
        for (int[] pair : byRule()) {
            if (pair[0] == person) {
                return pair[1];
            }
        }
        return -2;
    }

    int pairs() {
        List<Integer> best = new ArrayList<>();
        for (List<int[]> pairs : allPairings(who())) {
            List<Integer> codes = codes(pairs);
            if (codes.size() > best.size() || codes.size() == best.size() && compare(codes, best) < 0) {
                best = codes;
            }
        }
        row = best;
        return best.size();
    }

    int bars() {
        List<Integer> keep = row;
        int fewer = Integer.bitCount(guests(who())) - pairs();
        row = keep;
        for (int some = 0; some < 1024; some++) {
            if ((some & ~guests(who())) != 0) {
                continue;
            }
            int known = 0;
            for (int one = 0; one < size(); one++) {
                for (int other = 0; other < size(); other++) {
                    if ((some >> one & 1) != 0 && canBeBrought(who(), one, other)) {
                        known |= 1 << other;
                    }
                }
            }
            if (Integer.bitCount(some) - Integer.bitCount(known) == fewer) {
                row = List.of(fewer, known);
                return some;
            }
        }
        throw new IllegalStateException();
    }

    private static List<Integer> codes(List<int[]> pairs) {
        List<Integer> codes = new ArrayList<>();
        for (int[] pair : pairs) {
            codes.add(10 * pair[0] + pair[1]);
        }
        Collections.sort(codes);
        return codes;
    }

    private static int compare(List<Integer> a, List<Integer> b) {
        for (int k = 0; k < a.size() && k < b.size(); k++) {
            if (!a.get(k).equals(b.get(k))) {
                return a.get(k) - b.get(k);
            }
        }
        return a.size() - b.size();
    }

    private List<List<int[]>> allPairings(String who) {
        List<List<int[]>> all = new ArrayList<>();
        pairUp(who, 0, new ArrayList<>(), all);
        return all;
    }

    private void pairUp(String who, int from, List<int[]> pairs, List<List<int[]>> all) {
        if (from == who.length()) {
            all.add(new ArrayList<>(pairs));
            return;
        }
        pairUp(who, from + 1, pairs, all);
        for (int other = 0; other < who.length(); other++) {
            boolean open = canBeBrought(who, from, other);
            for (int[] q : pairs) {
                open &= q[1] != other;
            }
            if (open) {
                pairs.add(new int[] {from, other});
                pairUp(who, from + 1, pairs, all);
                pairs.remove(pairs.size() - 1);
            }
        }
    }

    // ---- what can come

    private List<List<int[]>> allWeeks(String who) {
        List<List<int[]>> all = allPairings(who);
        all.removeIf(pairs -> !mayBe(who, pairs));
        return all;
    }

    /** What can be behind each of 0 .. 60 WEEKS, with the least that is paid; null if there are too many STATES. */
    private List<Map<String, Integer>> layers() {
        List<Map<String, Integer>> layers = new ArrayList<>();
        Set<String> all = new HashSet<>();
        Map<String, Map<String, Integer>> next = new HashMap<>();
        Map<String, Integer> layer = new LinkedHashMap<>();
        layer.put(who(), 0);
        for (int t = 0; t <= 60; t++) {
            layers.add(layer);
            all.addAll(layer.keySet());
            if (all.size() > 3000) {
                return null;
            }
            Map<String, Integer> then = new LinkedHashMap<>();
            for (Map.Entry<String, Integer> e : layer.entrySet()) {
                Map<String, Integer> ways = next.computeIfAbsent(e.getKey(), this::ways);
                ways.forEach((who, cost) -> then.merge(who, cost + e.getValue(), Math::min));
            }
            layer = then;
        }
        return layers;
    }

    private Map<String, Integer> ways(String who) {
        Map<String, Integer> ways = new LinkedHashMap<>();
        for (List<int[]> pairs : allWeeks(who)) {
            ways.merge(after(who, pairs), cost(pairs), Math::min);
        }
        return ways;
    }

    private static Set<String> union(List<Map<String, Integer>> layers) {
        Set<String> all = new HashSet<>();
        for (Map<String, Integer> layer : layers) {
            all.addAll(layer.keySet());
        }
        return all;
    }

    private static int number(String who) {
        return Integer.bitCount(guests(who));
    }

    int states() {
        List<Map<String, Integer>> layers = layers();
        if (layers == null) {
            return -3;
        }
        int none = 0;
        int most = 0;
        for (String who : union(layers)) {
            none += number(who) == 0 ? 1 : 0;
            most = Math.max(most, number(who));
        }
        row = List.of(none, most);
        return union(layers).size();
    }

    private static boolean badWeek(int n) {
        return n < 0 || n > 60;
    }

    int most(int n) {
        if (badWeek(n)) {
            return -1;
        }
        List<Map<String, Integer>> layers = layers();
        if (layers == null) {
            return -3;
        }
        int most = 0;
        for (String who : layers.get(n).keySet()) {
            most = Math.max(most, number(who));
        }
        row = List.of(layers.get(n).size());
        return most;
    }

    int reach(int n) {
        if (badWeek(n)) {
            return -1;
        }
        List<Map<String, Integer>> layers = layers();
        if (layers == null) {
            return -3;
        }
        int some = 0;
        int each = -1;
        for (String who : layers.get(n).keySet()) {
            if (number(who) > 0) {
                some |= guests(who);
                each &= guests(who);
            }
        }
        row = List.of(each == -1 ? 0 : each);
        return some;
    }

    int fewest(int n) {
        if (badWeek(n)) {
            return -1;
        }
        List<Map<String, Integer>> layers = layers();
        if (layers == null) {
            return -3;
        }
        int fewest = 99;
        for (String who : layers.get(n).keySet()) {
            fewest = number(who) > 0 ? Math.min(fewest, number(who)) : fewest;
        }
        return fewest == 99 ? -2 : fewest;
    }

    int crowd() {
        List<Map<String, Integer>> layers = layers();
        if (layers == null) {
            return -3;
        }
        int most = 0;
        for (String who : union(layers)) {
            most = Math.max(most, number(who));
        }
        for (int t = 0; t <= 60; t++) {
            int least = INFINITE;
            for (Map.Entry<String, Integer> e : layers.get(t).entrySet()) {
                least = number(e.getKey()) == most ? Math.min(least, e.getValue()) : least;
            }
            if (least < INFINITE) {
                row = List.of(most, least);
                return t;
            }
        }
        throw new IllegalStateException();
    }

    int both(int one, int other, int n) {
        if (badWeek(n) || !there(one) || !there(other) || one == other) {
            return -1;
        }
        List<Map<String, Integer>> layers = layers();
        if (layers == null) {
            return -3;
        }
        int least = INFINITE;
        for (Map.Entry<String, Integer> e : layers.get(n).entrySet()) {
            if (isGuest(e.getKey(), one) && isGuest(e.getKey(), other)) {
                least = Math.min(least, e.getValue());
            }
        }
        return least == INFINITE ? -2 : least;
    }

    /** The most WEEKS with somebody (person < 0) or just one still a GUEST. */
    private int longest(String who, int person) {
        if (person < 0 ? number(who) == 0 : !isGuest(who, person)) {
            return -1;
        }
        String key = "L" + person + alsoHidden + who;
        Integer is = memo.get(key);
        if (is != null) {
            return is;
        }
        int best = 0;
        for (List<int[]> pairs : allWeeks(who)) {
            best = Math.max(best, 1 + longest(after(who, pairs), person));
        }
        memo.put(key, best);
        return best;
    }

    /** The least that is paid so that somebody is a GUEST behind n WEEKS. */
    private int cheapest(String who, int n) {
        if (number(who) == 0) {
            return INFINITE;
        }
        if (n == 0) {
            return 0;
        }
        String key = "C" + n + who;
        Integer is = memo.get(key);
        if (is != null) {
            return is;
        }
        int best = INFINITE;
        for (List<int[]> pairs : allWeeks(who)) {
            best = Math.min(best, cost(pairs) + cheapest(after(who, pairs), n - 1));
        }
        memo.put(key, best);
        return best;
    }

    int last() {
        memo.clear();
        List<Map<String, Integer>> layers = layers();
        if (layers == null) {
            return -3;
        }
        if (number(who()) == 0) {
            return -2;
        }
        int last = longest(who(), -1);
        int fewest = 99;
        for (String who : layers.get(last).keySet()) {
            fewest = number(who) > 0 ? Math.min(fewest, number(who)) : fewest;
        }
        row = List.of(fewest);
        return last;
    }

    int begin() {
        memo.clear();
        if (layers() == null) {
            return -3;
        }
        int last = longest(who(), -1);
        if (last <= 0) {
            return -2;
        }
        List<Integer> best = null;
        for (List<int[]> pairs : allWeeks(who())) {
            if (longest(after(who(), pairs), -1) == last - 1) {
                List<Integer> codes = codes(pairs);
                best = best == null || compare(codes, best) < 0 ? codes : best;
            }
        }
        row = best;
        return best.size();
    }

    int cheap(int n) {
        memo.clear();
        if (badWeek(n)) {
            return -1;
        }
        if (layers() == null) {
            return -3;
        }
        int least = cheapest(who(), n);
        if (least >= INFINITE) {
            return -2;
        }
        List<Integer> best = null;
        if (n > 0) {
            for (List<int[]> pairs : allWeeks(who())) {
                if (cost(pairs) + cheapest(after(who(), pairs), n - 1) == least) {
                    List<Integer> codes = codes(pairs);
                    best = best == null || compare(codes, best) < 0 ? codes : best;
                }
            }
        }
        row = best == null ? List.of() : best;
        return least;
    }

    int stays(int person) {
        memo.clear();
        if (!there(person)) {
            return -1;
        }
        if (layers() == null) {
            return -3;
        }
        if (!isGuest(who(), person)) {
            return -2;
        }
        int weeks = longest(who(), person);
        int first = 99;
        for (List<int[]> pairs : allWeeks(who())) {
            if (weeks == 0 || longest(after(who(), pairs), person) == weeks - 1) {
                int whom = -1;
                for (int[] pair : pairs) {
                    whom = pair[0] == person ? pair[1] : whom;
                }
                first = Math.min(first, whom);
            }
        }
        row = List.of(first);
        return weeks;
    }

    int soonest(int person) {
        if (!there(person)) {
            return -1;
        }
        List<Map<String, Integer>> layers = layers();
        if (layers == null) {
            return -3;
        }
        for (int t = 0; t <= 60; t++) {
            for (String who : layers.get(t).keySet()) {
                if (isGuest(who, person)) {
                    return t;
                }
            }
        }
        return -2;
    }

    private int lessWithout(int person) {
        int last = longest(who(), -1);
        alsoHidden.add(person);
        int without = longest(who(), -1);
        alsoHidden.clear();
        return last - without;
    }

    int worth(int person) {
        memo.clear();
        if (!there(person) || now.who.charAt(person) != 's' || now.hidden.get(person)) {
            return -1;
        }
        if (layers() == null) {
            return -3;
        }
        return number(who()) == 0 ? -2 : lessWithout(person);
    }

    int needed() {
        memo.clear();
        if (layers() == null) {
            return -3;
        }
        if (number(who()) == 0) {
            return -2;
        }
        int needed = 0;
        for (int p = 0; p < size(); p++) {
            if (now.who.charAt(p) == 's' && !now.hidden.get(p) && lessWithout(p) > 0) {
                needed |= 1 << p;
            }
        }
        return needed;
    }

    int never() {
        List<Map<String, Integer>> layers = layers();
        if (layers == null) {
            return -3;
        }
        int never = bits(who(), "s");
        for (String who : union(layers)) {
            never &= ~guests(who);
        }
        return never;
    }

    // ---- bounds

    private boolean passable(int p) {
        return now.who.charAt(p) == 's' && !now.hidden.get(p);
    }

    /** The least ways from any GUEST to all whom they lead to, with both ends. */
    private Map<Integer, List<Integer>> ways() {
        Map<Integer, List<Integer>> ways = new HashMap<>();
        Deque<List<Integer>> open = new ArrayDeque<>();
        for (int p = 0; p < size(); p++) {
            if (isGuest(who(), p)) {
                open.add(List.of(p));
            }
        }
        while (!open.isEmpty()) {
            List<Integer> way = open.poll();
            int end = way.get(way.size() - 1);
            List<Integer> old = ways.get(end);
            if (old == null || old.size() == way.size()
                    && compare(way.subList(1, way.size()), old.subList(1, old.size())) < 0) {
                ways.put(end, way);
            } else if (old.size() < way.size()) {
                continue;
            }
            for (int other : knows.get(end)) {
                if (passable(other) && !way.contains(other)) {
                    List<Integer> longer = new ArrayList<>(way);
                    longer.add(other);
                    open.add(longer);
                }
            }
        }
        return ways;
    }

    int bound() {
        if (number(who()) == 0) {
            return -2;
        }
        int strangers = 0;
        for (int p : ways().keySet()) {
            strangers += isGuest(who(), p) ? 0 : 1;
        }
        int least = 9;
        for (char c : who().toCharArray()) {
            least = c >= '0' && c <= '2' ? Math.min(least, c - '0') : least;
        }
        return grace * strangers + Math.max(grace - least, 1) - 1;
    }

    int far(int person) {
        if (!there(person)) {
            return -1;
        }
        List<Integer> way = ways().get(person);
        if (way == null) {
            return -2;
        }
        row = way.size() < 3 ? List.of() : new ArrayList<>(way.subList(1, way.size() - 1));
        return way.size() - 1;
    }

    // ---- who led whom

    private List<Integer> lineOf(int person) {
        List<Integer> line = new ArrayList<>();
        for (int by = now.by.get(person); by >= 0; by = now.by.get(by)) {
            line.add(0, by);
        }
        return line;
    }

    int line(int person) {
        if (!there(person)) {
            return -1;
        }
        row = lineOf(person);
        return row.size();
    }

    private int ledBits(int person) {
        int led = 0;
        for (int p = 0; p < size(); p++) {
            led |= lineOf(p).contains(person) ? 1 << p : 0;
        }
        return led;
    }

    int led(int person) {
        if (!there(person)) {
            return -1;
        }
        int deep = 0;
        for (int p = 0; p < size(); p++) {
            List<Integer> line = lineOf(p);
            deep = line.contains(person) ? Math.max(deep, line.size() - line.indexOf(person)) : deep;
        }
        row = List.of(Collections.frequency(now.by, person), deep);
        return ledBits(person);
    }

    int was(int week) {
        return week < 0 || week > weeks() ? -1 : now.guestsBehind.get(week);
    }

    int common(int one, int other) {
        if (!there(one) || !there(other) || one == other) {
            return -1;
        }
        List<Integer> a = lineOf(one);
        List<Integer> b = lineOf(other);
        a.add(one);
        b.add(other);
        a.retainAll(b);
        return a.isEmpty() ? -2 : a.get(a.size() - 1);
    }

    int father() {
        int best = -1;
        int most = 0;
        for (int p = 0; p < size(); p++) {
            if (Integer.bitCount(ledBits(p)) > most) {
                best = p;
                most = Integer.bitCount(ledBits(p));
            }
        }
        if (best < 0) {
            return -2;
        }
        row = List.of(most);
        return best;
    }

    // ---- kept

    boolean keep(int i) {
        if (i != 0 && i != 1) {
            return false;
        }
        kept[i] = now.copy();
        keptGrace[i] = grace;
        keptSeats[i] = seats;
        return true;
    }

    boolean again(int i) {
        if (i != 0 && i != 1 || kept[i] == null || kept[i].by.size() != size()) {
            return false;
        }
        now = kept[i].copy();
        grace = keptGrace[i];
        seats = keptSeats[i];
        undo.clear();
        return true;
    }

    int count(int what) {
        int hidden = 0;
        for (int p = 0; p < size(); p++) {
            hidden |= now.hidden.get(p) ? 1 << p : 0;
        }
        int[] all = {size(), weeks(), guests(who()), bits(who(), "s"), bits(who(), "x"), now.paid, undo.size(),
            row.size(), text.length(), hidden};
        return what < 0 || what >= all.length ? -1 : all[what];
    }

    int row(int i) {
        if (i < 0 || i >= row.size()) {
            throw new NoSuchElementException();
        }
        return row.get(i);
    }

    @Override
    public String toString() {
        return who() + " " + knows + " prices " + price + " hidden " + now.hidden + " law " + grace + " " + seats
                + " rule " + rule + " row " + row + " " + Arrays.toString(kept);
    }
}
