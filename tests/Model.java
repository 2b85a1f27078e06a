import java.util.ArrayList;
import java.util.Arrays;
import java.util.List;
import java.util.Set;
import java.util.TreeSet;

/**
 * The document once more, written apart from LittleMore and in other ways: everything a state is, is copied for each
 * question; a counter stays a text, which is cut up anew each time; whether a text can become a counter is found by
 * trying all readings of each of its beginnings; the acts are a table of bodies.
 */
final class Model {
    private static final int NUMBER = 0, KIND = 1, V = 2, WANTS = 3, TRUST = 4, OVER = 5;
    private static final int NOES = 6, VISITS = 7, GONE = 8, ROW = 9;
    private static final int[] ABOVE = {-1, 0, 0, 0, 1, 2, 3};
    private static final int[][] BODIES = {
        {0, 0, 10}, {0, 1, 11}, {0, 2, 12}, {1, 1, 20}, {2, 0, 30}, {3, 2, 40}, {4, 0, 50}, {4, 1, 51},
        {5, 2, 60}, {6, 1, 70}, {6, 0, 71}
    };

    /** What an image keeps. */
    private static final class State {
        List<int[]> people = new ArrayList<>();
        List<Integer> seen = new ArrayList<>();
        List<Integer> book = new ArrayList<>();
        int off = 2;
        String counter = "";

        State copy() {
            State s = new State();
            for (int[] p : people) {
                s.people.add(p.clone());
            }
            s.seen.addAll(seen);
            s.book.addAll(book);
            s.off = off;
            s.counter = counter;
            return s;
        }
    }

    private State now = new State();
    private State kept = null;
    private String text = "";
    private int counters = 0;
    private final List<Integer> trace = new ArrayList<>();
    private final long[][] rows = new long[6][];
    private final int[] sorts = new int[6];

    // ---- counters

    /** The grammar, all readings at once: from a place on, the places behind each reading. */
    private static final class Reading {
        final String s;
        boolean wantedMore = false;

        Reading(String s) {
            this.s = s;
        }

        Set<Integer> one(Set<Integer> from, String signs) {
            Set<Integer> to = new TreeSet<>();
            for (int p : from) {
                if (p == s.length()) {
                    wantedMore = true;
                } else if (signs.indexOf(s.charAt(p)) >= 0) {
                    to.add(p + 1);
                }
            }
            return to;
        }

        Set<Integer> word(Set<Integer> from, String word) {
            Set<Integer> to = from;
            for (char c : word.toCharArray()) {
                to = one(to, String.valueOf(c));
            }
            return to;
        }

        Set<Integer> number(Set<Integer> from) {
            Set<Integer> to = one(from, "0123456789");
            Set<Integer> all = new TreeSet<>(to);
            all.addAll(one(to, "0123456789"));
            return all;
        }

        Set<Integer> listed(Set<Integer> from, int depth, boolean ors) {
            Set<Integer> all = new TreeSet<>();
            Set<Integer> to = from;
            while (!to.isEmpty()) {
                to = ors ? listed(to, depth, false) : factor(to, depth);
                to.removeAll(all);
                all.addAll(to);
                to = one(to, ors ? "|" : "&");
            }
            return all;
        }

        Set<Integer> factor(Set<Integer> from, int depth) {
            Set<Integer> all = number(one(one(from, "cktond"), "<=>"));
            if (depth < 4 && !from.isEmpty()) {
                Set<Integer> not = one(from, "!");
                if (!not.isEmpty()) {
                    all.addAll(factor(not, depth + 1));
                }
                Set<Integer> open = one(from, "(");
                if (!open.isEmpty()) {
                    all.addAll(one(listed(open, depth + 1, true), ")"));
                }
            }
            return all;
        }

        Set<Integer> clause(Set<Integer> from) {
            Set<Integer> all = new TreeSet<>();
            for (String word : new String[] {"more ", "less ", "price ", "learn "}) {
                Set<Integer> to = number(word(from, word));
                all.addAll(word.length() == 5 ? listed(one(to, " "), 0, true) : to);
            }
            return all;
        }

        boolean isCounter() {
            Set<Integer> to = new TreeSet<>(List.of(0));
            boolean whole = false;
            for (int k = 0; k < 10; k++) {
                to = clause(to);
                whole |= to.contains(s.length());
                if (k < 9) {
                    to = one(to, ";");
                }
            }
            return whole;
        }
    }

    /** -1: the text is a counter. */
    static int fault(String s) {
        for (int p = 0; p < s.length(); p++) {
            Reading r = new Reading(s.substring(0, p + 1));
            boolean whole = r.isCounter();
            if (!whole && !r.wantedMore) {
                return p;
            }
        }
        return new Reading(s).isCounter() ? -1 : s.length();
    }

    private static List<String> split(String s, char by) {
        List<String> parts = new ArrayList<>();
        int depth = 0;
        int from = 0;
        for (int i = 0; i < s.length(); i++) {
            char c = s.charAt(i);
            depth += c == '(' ? 1 : c == ')' ? -1 : 0;
            if (c == by && depth == 0) {
                parts.add(s.substring(from, i));
                from = i + 1;
            }
        }
        parts.add(s.substring(from));
        return parts;
    }

    private static boolean truth(String e, int[] p) {
        List<String> ors = split(e, '|');
        if (ors.size() > 1) {
            return ors.stream().anyMatch(part -> truth(part, p));
        }
        List<String> ands = split(e, '&');
        if (ands.size() > 1) {
            return ands.stream().allMatch(part -> truth(part, p));
        }
        if (e.charAt(0) == '!') {
            return !truth(e.substring(1), p);
        }
        if (e.charAt(0) == '(') {
            return truth(e.substring(1, e.length() - 1), p);
        }
        int n = Integer.parseInt(e.substring(2));
        int is = switch (e.charAt(0)) {
            case 'c' -> p[NUMBER];
            case 'k' -> p[KIND];
            case 't' -> p[TRUST];
            case 'o' -> p[OVER];
            case 'n' -> p[NOES];
            default -> p[VISITS] % 7;
        };
        return e.charAt(1) == '<' ? is < n : e.charAt(1) == '>' ? is > n : is == n;
    }

    private static int lastOf(State s, String word, int without) {
        int n = without;
        for (String clause : s.counter.split(";")) {
            String[] parts = clause.split(" ");
            n = parts[0].equals(word) ? Integer.parseInt(parts[1]) : n;
        }
        return n;
    }

    private static int price(State s) {
        return lastOf(s, "price", 5);
    }

    private static int more(State s, int[] p) {
        int sum = s.off + p[TRUST];
        for (String clause : s.counter.split(";")) {
            String[] parts = clause.split(" ");
            if (parts.length == 3 && truth(parts[2], p)) {
                sum += (parts[0].equals("more") ? 1 : -1) * Integer.parseInt(parts[1]);
            }
        }
        return sum < 0 ? 0 : sum;
    }

    // ---- one customer

    private static int asksOf(int[] p) {
        return switch (p[KIND]) {
            case 1 -> Math.max(p[WANTS] - p[OVER], 1);
            case 3 -> p[WANTS] / 2;
            case 4 -> Math.max(Math.max(p[WANTS] - p[OVER], 1) - 2, 1);
            case 6 -> p[WANTS] / 2 + p[ROW + p[VISITS] % 4];
            default -> p[WANTS];
        };
    }

    private static int letsOf(int[] p) {
        return switch (p[KIND]) {
            case 0 -> p[V];
            case 1 -> p[V] / 2;
            case 2, 5 -> 2 * p[V];
            case 4 -> Math.max(p[V] / 2 - p[OVER], 0);
            default -> 99;
        };
    }

    private static boolean saysNo(State s, int[] p) {
        return more(s, p) > letsOf(p);
    }

    private static int buysIf(State s, int[] p, int ask) {
        return ask + (saysNo(s, p) ? more(s, p) / 2 : more(s, p));
    }

    private static int visited(State s, int[] p) {
        boolean no = saysNo(s, p);
        int buys = buysIf(s, p, asksOf(p));
        if (no) {
            p[NOES] = p[NOES] == 99 ? 99 : p[NOES] + 1;
            p[TRUST] = p[TRUST] < 2 ? 0 : p[TRUST] - 2;
            p[GONE] = p[KIND] == 5 && p[NOES] >= 3 ? 1 : 0;
        } else {
            p[TRUST] = Math.min(p[TRUST] + lastOf(s, "learn", 1), 20);
        }
        p[OVER] = buys < p[WANTS] ? 0 : Math.min(buys - p[WANTS], 99);
        p[VISITS]++;
        return buys;
    }

    private static int alone(State s, int[] p, int n) {
        int buys = 0;
        for (int k = 0; k < n; k++) {
            buys += p[GONE] == 1 ? 0 : visited(s, p);
        }
        return buys;
    }

    private static int all(State s) {
        int buys = 0;
        for (int[] p : s.people) {
            buys += alone(s, p, 1);
        }
        return buys;
    }

    private State behind(int saturdays) {
        State s = now.copy();
        for (int k = 0; k < saturdays; k++) {
            all(s);
        }
        return s;
    }

    private static int gone(State s) {
        int bits = 0;
        for (int[] p : s.people) {
            bits += p[GONE] << p[NUMBER];
        }
        return bits;
    }

    private boolean none(int customer) {
        return customer < 0 || customer >= now.people.size();
    }

    private static boolean in(int n, int from, int to) {
        return from <= n && n <= to;
    }

    // ---- the face

    public int customer(int kind, int v, int wants) {
        if (!in(kind, 0, 6)) return -1;
        if (!in(v, 0, 9) || !in(wants, 10, 99)) return -2;
        if (now.people.size() == 6) return -4;
        int[] p = new int[ROW + 4];
        p[NUMBER] = now.people.size();
        p[KIND] = kind;
        p[V] = v;
        p[WANTS] = wants;
        p[TRUST] = 3;
        now.people.add(p);
        return p[NUMBER];
    }

    public int of(int customer, int what) {
        if (none(customer) || !in(what, 0, 11)) return -1;
        int[] p = now.people.get(customer);
        if (what < 8) return p[new int[] {KIND, V, WANTS, TRUST, OVER, NOES, VISITS, GONE}[what]];
        return what == 8 ? more(now, p) : what == 9 ? asksOf(p) : what == 10 ? letsOf(p) : saysNo(now, p) ? 1 : 0;
    }

    public int set(int customer, int what, int n) {
        if (none(customer) || !in(what, 0, 3)) return -1;
        if (!in(n, what == 0 ? 10 : 0, new int[] {99, 20, 99, 1}[what])) return -2;
        int[] p = now.people.get(customer);
        int field = new int[] {WANTS, TRUST, OVER, GONE}[what];
        int was = p[field];
        p[field] = n;
        return was;
    }

    public int row(int customer, int part, int n) {
        if (none(customer) || !in(part, 0, 3)) return -1;
        if (!in(n, 0, 9)) return -2;
        int[] p = now.people.get(customer);
        if (p[KIND] != 6) return -3;
        int was = p[ROW + part];
        p[ROW + part] = n;
        return was;
    }

    public int feed(int sign) {
        if (!in(sign, 0, 127)) return -2;
        if (text.length() == 100) return -4;
        text += (char) sign;
        return text.length();
    }

    public int counter() {
        if (counters == 6) return -4;
        int fault = fault(text);
        String fed = text;
        text = "";
        if (fault >= 0) return -10 - fault;
        now.counter = fed;
        return counters++;
    }

    public int knife(int n) {
        if (!in(n, 0, 30)) return -2;
        int was = now.off;
        now.off = n;
        return was;
    }

    public int told(int what) {
        if (!in(what, 0, 3)) return -1;
        return new int[] {now.off, price(now), lastOf(now, "learn", 1), gone(now)}[what];
    }

    public int visit(int customer) {
        if (none(customer)) return -1;
        int[] p = now.people.get(customer);
        return p[GONE] == 1 ? -3 : visited(now, p) * price(now);
    }

    public int saturday() {
        return all(now) * price(now);
    }

    public int on(int customer, int n, int what) {
        if (none(customer) || !in(what, 0, 4)) return -1;
        if (!in(n, 0, 40)) return -2;
        State s = now.copy();
        int[] p = s.people.get(customer);
        int buys = alone(s, p, n);
        int noes = p[NOES] - now.people.get(customer)[NOES];
        return new int[] {buys, buys * price(s), noes, p[TRUST], p[OVER]}[what];
    }

    public int asked(int customer, int what) {
        if (none(customer) || !in(what, 0, 1)) return -1;
        int[] p = now.people.get(customer);
        if (p[GONE] == 1) return -5;
        int best = 1;
        for (int a = 2; a <= 99; a++) {
            if (Math.abs(buysIf(now, p, a) - p[WANTS]) < Math.abs(buysIf(now, p, best) - p[WANTS])) best = a;
        }
        return what == 0 ? best : buysIf(now, p, best);
    }

    public int dare(int n, int what) {
        if (!in(what, 0, 1)) return -1;
        if (!in(n, 1, 20)) return -2;
        int[] paid = new int[31];
        for (int off = 0; off <= 30; off++) {
            State s = now.copy();
            s.off = off;
            for (int k = 0; k < n; k++) {
                paid[off] += all(s) * price(s);
            }
        }
        int most = Arrays.stream(paid).max().getAsInt();
        for (int off = 0; off <= 30; off++) {
            if (paid[off] == most) return what == 0 ? off : most;
        }
        return Integer.MIN_VALUE;
    }

    public int learnt(int customer, int q) {
        if (none(customer)) return -1;
        if (!in(q, 0, 99)) return -2;
        for (int n = 0; n <= 40; n++) {
            State s = now.copy();
            int[] p = s.people.get(customer);
            alone(s, p, n);
            if (more(s, p) <= q) return n;
        }
        return -5;
    }

    public int nobody() {
        for (int n = 0; n <= 40; n++) {
            State s = behind(n);
            if (s.people.stream().noneMatch(p -> p[GONE] == 0 && saysNo(s, p))) return n;
        }
        return -5;
    }

    public int lost(int n) {
        return in(n, 0, 40) ? gone(behind(n)) : -2;
    }

    public int over(int customer, int p, int n) {
        if (none(customer)) return -1000001;
        if (!in(p, 1, 99) || !in(n, 1, 40)) return -1000002;
        return on(customer, n, 1) - n * p * now.people.get(customer)[WANTS];
    }

    public int nearest(int n) {
        if (!in(n, 1, 20)) return -2;
        int best = -5;
        int far = Integer.MAX_VALUE;
        for (int c = now.people.size() - 1; c >= 0; c--) {
            int is = Math.abs(on(c, n, 0) - n * now.people.get(c)[WANTS]);
            if (is <= far) {
                far = is;
                best = c;
            }
        }
        return best;
    }

    public int see(int cut) {
        if (cut == -1) {
            now.seen.clear();
            return 0;
        }
        if (!in(cut, 0, 999)) return -2;
        if (now.seen.size() == 4) return -4;
        now.seen.add(cut);
        return now.seen.size();
    }

    private boolean cutsSeen(State s, int[] p) {
        List<Integer> cuts = new ArrayList<>();
        while (cuts.size() < s.seen.size() && p[GONE] == 0) {
            cuts.add(asksOf(p) + more(s, p));
            visited(s, p);
        }
        return cuts.equals(s.seen);
    }

    public int who() {
        int bits = 0;
        for (int c = 0; c < now.people.size(); c++) {
            State s = now.copy();
            bits += cutsSeen(s, s.people.get(c)) ? 1 << c : 0;
        }
        return bits;
    }

    public int offs(int customer, int what) {
        if (none(customer) || !in(what, 0, 1)) return -1;
        List<Integer> found = new ArrayList<>();
        for (int off = 0; off <= 30; off++) {
            State s = now.copy();
            s.off = off;
            if (cutsSeen(s, s.people.get(customer))) found.add(off);
        }
        return what == 0 ? found.size() : found.isEmpty() ? -5 : found.get(0);
    }

    private static long lowest(int above, int below, int part) {
        if (below == 0) return Long.MIN_VALUE;
        for (int d = Math.max(above, below); d > 1; d--) {
            if (above % d == 0 && below % d == 0) return (part == 0 ? above : below) / d;
        }
        return part == 0 ? above : below;
    }

    public long odds(int n, int part) {
        if (!in(n, 0, 40) || !in(part, 0, 1)) return Long.MIN_VALUE;
        State s = behind(n);
        int left = 0;
        int noes = 0;
        for (int[] p : s.people) {
            left += 1 - p[GONE];
            noes += p[GONE] == 0 && saysNo(s, p) ? 1 : 0;
        }
        return lowest(noes, left, part);
    }

    public long mean(int n, int part) {
        if (!in(n, 1, 40) || !in(part, 0, 1)) return Long.MIN_VALUE;
        State s = now.copy();
        int sum = 0;
        int visits = 0;
        for (int k = 0; k < n; k++) {
            for (int[] p : s.people) {
                if (p[GONE] == 0) {
                    int asks = asksOf(p);
                    sum += visited(s, p) - asks;
                    visits++;
                }
            }
        }
        return lowest(sum, visits, part);
    }

    public int book(int customer) {
        if (customer == -1) {
            now.book.clear();
            return 0;
        }
        if (none(customer)) return -1;
        if (now.book.size() == 8) return -4;
        now.book.add(customer);
        return now.book.size();
    }

    public int looked() {
        State s = now.copy();
        for (int c : s.book) {
            int[] p = s.people.get(c);
            if (p[GONE] == 0 && saysNo(s, p)) return c;
            alone(s, p, 1);
        }
        return -5;
    }

    public int judge(int tape, int i) {
        if (!in(tape, 0, 5)) return -1;
        if (rows[tape] != null && sorts[tape] != 0) return -12;
        int looked = 0;
        for (int[] p : now.people) {
            long place = (long) i + looked;
            if (i < 0 || rows[tape] == null || place >= rows[tape].length) return 100 + looked;
            if (rows[tape][(int) place] != p[TRUST]) return looked;
            looked++;
        }
        return -5;
    }

    public int image() {
        kept = now.copy();
        return now.people.size();
    }

    public int undo() {
        if (kept == null) return -3;
        now = kept.copy();
        return now.people.size();
    }

    /** The body of an act for a kind, from that kind on upwards, runs. */
    private int run(int[] p, int kind, int act, int x) {
        int from = kind;
        int[] body = null;
        while (body == null) {
            for (int[] b : BODIES) {
                body = b[0] == from && b[1] == act ? b : body;
            }
            from = ABOVE[from];
        }
        int above = ABOVE[body[0]];
        int own = p[KIND];
        trace.add(body[2]);
        switch (body[2]) {
            case 10: return x + p[NUMBER];
            case 11: return run(p, own, 0, x) - p[V];
            case 12: return run(p, own, 1, x) * 2;
            case 20: return run(p, above, 1, x) ^ 6;
            case 30: return run(p, above, 0, x * 3);
            case 40: {
                int first = run(p, above, 2, x);
                return first + run(p, own, 1, 1);
            }
            case 50: return -run(p, above, 0, x);
            case 51: return run(p, above, 1, x + 1);
            case 60: return run(p, above, 2, x - p[NUMBER]);
            case 70: {
                int first = run(p, above, 1, x);
                return first + run(p, above, 0, 2);
            }
            default: return run(p, above, 0, x) ^ p[V];
        }
    }

    public int act(int customer, int act, int x) {
        trace.clear();
        if (none(customer) || !in(act, 0, 2)) return 0;
        int[] p = now.people.get(customer);
        return run(p, p[KIND], act, x);
    }

    public int trace(int i) {
        return i >= 0 && i < Math.min(20, trace.size()) ? trace.get(i) : -1;
    }

    public int taken(int customer, int k) {
        if (!in(k, 0, 6)) return -2;
        if (none(customer)) return -11;
        int kind = now.people.get(customer)[KIND];
        for (int up = kind; up >= 0; up = ABOVE[up]) {
            if (up == k) return kind;
        }
        return -12;
    }

    public int count(int what) {
        if (!in(what, 0, 5)) return -2;
        return new int[] {
            now.people.size(), counters, now.seen.size(), now.book.size(), text.length(), trace.size()}[what];
    }

    public int tape(int tape, int sort, int n) {
        if (!in(tape, 0, 5)) return -1;
        if (!in(sort, -1, 4)) return -2;
        if (sort >= 0 && n > 60) return -2;
        if (sort >= 0 && n < 0) return -14;
        rows[tape] = sort < 0 ? null : new long[n];
        sorts[tape] = sort;
        return 1;
    }

    public int item(int tape, int i, long v) {
        if (!in(tape, 0, 5)) return -1;
        if (rows[tape] == null) return -11;
        if (i < 0 || i >= rows[tape].length) return -13;
        int bits = new int[] {8, 16, 32, 64, 64}[sorts[tape]];
        rows[tape][i] = sorts[tape] == 4 ? Math.min(1, Math.abs((v >>> 1) | (v & 1))) : v << (64 - bits) >> (64 - bits);
        return 1;
    }

    public long read(int tape, int i) {
        boolean there = in(tape, 0, 5) && rows[tape] != null && i >= 0 && i < rows[tape].length;
        return there ? rows[tape][i] : Long.MIN_VALUE;
    }

    public int shift(int tape, int i, int other, int j, int n) {
        if (!in(tape, 0, 5) || !in(other, 0, 5)) return -1;
        if (rows[tape] == null || rows[other] == null) return -11;
        if (sorts[tape] != sorts[other]) return -12;
        if (n < 0 || i < 0 || j < 0) return -13;
        if ((long) i + n > rows[tape].length || (long) j + n > rows[other].length) return -13;
        long[] were = rows[tape].clone();
        for (int k = 0; k < n; k++) {
            rows[other][j + k] = were[i + k];
        }
        return n;
    }
}
