import java.math.BigInteger;
import java.util.ArrayList;
import java.util.Arrays;
import java.util.Comparator;
import java.util.HashMap;
import java.util.List;
import java.util.Map;
import java.util.Random;
import java.util.TreeSet;
import java.util.regex.Matcher;
import java.util.regex.Pattern;

/**
 * Long runs of calls, the same each time, on TightHulls and on a model that takes the document's words one by one
 * (corners by trying all choices of tight twos, faults by asking which beginnings can be gone on with).
 */
public final class ModelTest {
    static final int RUNS = 2000, CALLS = 400, SHOWN = 20;
    static int wrong = 0;

    public static void main(String[] args) {
        checkModelCorners();
        int[] asked = new int[Driver.KINDS];
        for (int run = 0; run < RUNS && wrong < SHOWN; run++) {
            new Driver(run, asked).go();
        }
        System.out.println("calls by kind: " + Arrays.toString(asked));
        for (int kind = 0; kind < asked.length; kind++) {
            if (asked[kind] == 0) {
                wrong++;
                System.out.println("kind " + kind + " was never called");
            }
        }
        System.out.println(wrong == 0 ? "all answers are as due" : wrong + " answers are not as due");
        if (wrong != 0) System.exit(1);
    }

    /** The model's corners against all functions of whole numbers, for small distances. */
    static void checkModelCorners() {
        Random random = new Random(7);
        for (int turn = 0; turn < 60; turn++) {
            Model m = new Model();
            int n = 3 + turn % 3;
            m.points(n);
            for (int x = 0; x < n; x++) {
                for (int y = x + 1; y < n; y++) m.set(x, y, random.nextInt(n == 5 ? 4 : 6));
            }
            m.shorten();
            TreeSet<String> all = new TreeSet<>();
            tryAll(m, new int[n], 0, all);
            TreeSet<String> found = new TreeSet<>();
            for (int[] c : m.hull()) found.add(Arrays.toString(c));
            if (!all.equals(found)) {
                wrong++;
                System.out.println("model's corners " + found + ", all functions give " + all);
            }
        }
    }

    static void tryAll(Model m, int[] f, int from, TreeSet<String> all) {
        if (from == f.length) {
            if (m.isCorner(f)) all.add(Arrays.toString(f));
            return;
        }
        for (int v = 0; v <= 2 * m.told(5); v++) {
            f[from] = v;
            tryAll(m, f, from + 1, all);
        }
    }

    static final class Driver {
        static final int KINDS = 38;
        final int run;
        final Random random;
        final int[] asked;
        final TightHulls x = new TightHulls();
        final Model m = new Model();
        final StringBuilder calls = new StringBuilder();
        final int most;
        int made = 0;

        Driver(int run, int[] asked) {
            this.run = run;
            this.asked = asked;
            random = new Random(1000003L * run + 17);
            most = run % 3 == 0 ? 40 : run % 3 == 1 ? 6 : 3;
        }

        boolean same(String call, long got, long want) {
            made++;
            calls.append("x.").append(call).append("; ");
            if (got == want) return true;
            wrong++;
            String told = calls.length() > 3000 ? ".. " + calls.substring(calls.length() - 3000) : calls.toString();
            System.out.println("run " + run + ": " + told + " answered " + got + ", due is " + want);
            return false;
        }

        int near(int limit) {
            int r = random.nextInt(60);
            if (r == 0) return -1;
            if (r == 1) return limit;
            if (r == 2) return random.nextInt();
            if (r == 3) return Integer.MIN_VALUE;
            if (r == 4) return Integer.MAX_VALUE;
            return random.nextInt(limit);
        }

        int point() { return near(m.n); }

        boolean setup() {
            for (int a = 0; a < m.n; a++) {
                for (int b = a + 1; b < m.n; b++) {
                    int v = random.nextInt(most + 1);
                    if (!same("set(" + a + ", " + b + ", " + v + ")", x.set(a, b, v), m.set(a, b, v))) return false;
                }
            }
            return random.nextInt(4) == 0 || same("shorten()", x.shorten(), m.shorten());
        }

        void go() {
            boolean so = true;
            while (so && made < CALLS) {
                int kind = random.nextInt(KINDS);
                asked[kind]++;
                so = kind < 16 ? firstKinds(kind) : laterKinds(kind);
            }
        }

        boolean firstKinds(int kind) {
            int a = point(), b = point(), c = point(), w = near(4), v = near(most + 1);
            int corner = near(20);
            switch (kind) {
                case 0: return random.nextInt(6) > 0 || same("points(" + (w = near(7)) + ")", x.points(w), m.points(w));
                case 1: return same("set(" + a + ", " + b + ", " + v + ")", x.set(a, b, v), m.set(a, b, v));
                case 2: return random.nextInt(3) > 0 || setup();
                case 3: return same("shorten()", x.shorten(), m.shorten());
                case 4: v = near(random.nextBoolean() ? 162 : 12);
                        return same("function(" + a + ", " + v + ")", x.function(a, v), m.function(a, v));
                case 5: w = near(3);
                        return same("least(" + w + ", " + corner + ")", x.least(w, corner), m.least(w, corner));
                case 6: return same("map(" + a + ", " + b + ")", x.map(a, b), m.map(a, b));
                case 7: return random.nextInt(5) > 0 || text();
                case 8: return same("read()", x.read(), m.read());
                case 9: return same("of(" + a + ", " + b + ", " + w + ")", x.of(a, b, w), m.of(a, b, w));
                case 10: w = near(11); return same("told(" + w + ")", x.told(w), m.told(w));
                case 11: w = near(14); return same("functionOf(" + w + ")", x.functionOf(w), m.functionOf(w));
                case 12: w = near(13); return same("mapOf(" + w + ")", x.mapOf(w), m.mapOf(w));
                case 13: return same("middle(" + a + ", " + b + ", " + c + ")", x.middle(a, b, c), m.middle(a, b, c));
                case 14: return same("corners()", x.corners(), m.corners());
                default: return same("at(" + corner + ", " + a + ")", x.at(corner, a), m.at(corner, a));
            }
        }

        boolean laterKinds(int kind) {
            int a = point(), b = point(), w = near(4), v = near(most + 1);
            int c = near(20), d = near(20), i = near(12), s = near(34), t = near(7), u = near(7);
            switch (kind) {
                case 16: return same("corner(" + c + ", " + w + ")", x.corner(c, w), m.corner(c, w));
                case 17: return same("tight(" + c + ", " + a + ", " + b + ")", x.tight(c, a, b), m.tight(c, a, b));
                case 18: return same("two(" + c + ", " + d + ", " + w + ")", x.two(c, d, w), m.two(c, d, w));
                case 19: return same("eye(" + a + ")", x.eye(a), m.eye(a));
                case 20: return same("weight(" + s + ")", x.weight(s), m.weight(s));
                case 21: return same("split(" + i + ", " + w + ")", x.split(i, w), m.split(i, w));
                case 22: s = random.nextInt(8) == 0 ? -1 : s & ~1;
                         v = random.nextBoolean() && m.weight(s) >= 0 ? m.weight(s) : near(101);
                         return same("see(" + s + ", " + v + ")", x.see(s, v), m.see(s, v));
                case 23: w = near(2);
                         return same("fits(" + a + ", " + b + ", " + w + ")", x.fits(a, b, w), m.fits(a, b, w));
                case 24: return same("odds(" + a + ", " + b + ", " + w + ")", x.odds(a, b, w), m.odds(a, b, w));
                case 25: return same("mean(" + w + ")", x.mean(w), m.mean(w));
                case 26: w = near(5) - 1; i = w == 2 && random.nextBoolean() ? 0 : near(11);
                         return same("event(" + w + ", " + i + ")", x.event(w, i), m.event(w, i));
                case 27: return same("after(" + w + ")", x.after(w), m.after(w));
                case 28: a = random.nextInt(12) == 0 ? -1 : a;
                         v = random.nextInt(3) > 0 && m.isTwo(a, b) ? m.of(a, b, 0) : near(43);
                         return same("book(" + a + ", " + b + ", " + v + ")", x.book(a, b, v), m.book(a, b, v));
                case 29: return same("looked()", x.looked(), m.looked());
                case 30: return judging();
                case 31: return random.nextInt(3) > 0 || same("image()", x.image(), m.image());
                case 32: return random.nextInt(3) > 0 || same("undo()", x.undo(), m.undo());
                case 33: w = near(5); return same("count(" + w + ")", x.count(w), m.count(w));
                case 34: w = near(7) - 1; i = near(random.nextBoolean() ? 62 : 8);
                         return same("tape(" + t + ", " + w + ", " + i + ")", x.tape(t, w, i), m.tape(t, w, i));
                case 35: long much = random.nextBoolean() ? random.nextLong() : random.nextInt(300) - 150;
                         return same("item(" + t + ", " + i + ", " + much + "L)", x.item(t, i, much), m.item(t, i, much))
                             && same("peek(" + t + ", " + i + ")", x.peek(t, i), m.peek(t, i));
                case 36: return random.nextInt(40) > 0 || wholeHull();
                default: int j = near(8), n = near(6); i = near(8); u = random.nextBoolean() ? t : u;
                         boolean so = same("shift(" + t + ", " + i + ", " + u + ", " + j + ", " + n + ")",
                             x.shift(t, i, u, j, n), m.shift(t, i, u, j, n));
                         for (int k = 0; so && k < 10; k++) so = same("peek(" + u + ", " + k + ")", x.peek(u, k), m.peek(u, k));
                         return so;
            }
        }

        boolean wholeHull() {
            boolean so = setup() && same("shorten()", x.shorten(), m.shorten());
            for (int c = 0; so && c < m.corners(); c++) {
                for (int p = 0; so && p < m.n; p++) {
                    so = same("at(" + c + ", " + p + ")", x.at(c, p), m.at(c, p))
                        && same("eye(" + p + ")", x.eye(p), m.eye(p));
                }
                for (int w = 0; so && w < 3; w++) {
                    so = same("corner(" + c + ", " + w + ")", x.corner(c, w), m.corner(c, w));
                    int e = random.nextInt(m.corners());
                    so = so && same("two(" + c + ", " + e + ", " + w + ")", x.two(c, e, w), m.two(c, e, w));
                }
            }
            for (int i = 0; so && i < 16; i++) {
                so = same("split(" + i + ", 0)", x.split(i, 0), m.split(i, 0))
                    && same("split(" + i + ", 1)", x.split(i, 1), m.split(i, 1));
            }
            return so;
        }

        /** A row of ints that is nearly the distances, judged. */
        boolean judging() {
            int t = near(7), place = near(4), n = near(14);
            boolean so = same("tape(" + t + ", 2, " + n + ")", x.tape(t, 2, n), m.tape(t, 2, n));
            int k = place;
            for (int a = 0; so && a < m.n; a++) {
                for (int b = a + 1; so && b < m.n; b++) {
                    long v = random.nextInt(14) == 0 ? random.nextInt(41) : m.of(a, b, 0);
                    so = same("item(" + t + ", " + k + ", " + v + "L)", x.item(t, k, v), m.item(t, k, v));
                    k++;
                }
            }
            int other = random.nextInt(4) == 0 ? near(7) : t;
            int from = random.nextInt(6) == 0 ? near(15) : place;
            return so && same("judge(" + other + ", " + from + ")", x.judge(other, from), m.judge(other, from));
        }

        boolean text() {
            StringBuilder text = new StringBuilder();
            int clauses = random.nextInt(14);
            for (int i = 0; i < clauses; i++) text.append(i > 0 ? ";" : "").append(clause());
            if (text.length() > 0 && random.nextInt(3) == 0) {
                int place = random.nextInt(text.length());
                char sign = "0123456789 ;ndsmhx\u0000\u007f".charAt(random.nextInt(20));
                if (random.nextBoolean()) text.setCharAt(place, sign);
                else if (random.nextBoolean()) text.insert(place, sign);
                else text.setLength(place);
            }
            boolean so = true;
            for (int i = 0; so && i < text.length(); i++) {
                int sign = text.charAt(i);
                so = same("feed(" + sign + ")", x.feed(sign), m.feed(sign));
            }
            if (!so || random.nextInt(4) == 0) return so;
            so = same("read()", x.read(), m.read()) && same("told(0)", x.told(0), m.told(0));
            for (int a = 0; so && a < m.n; a++) {
                for (int b = 0; so && b < m.n; b++) {
                    so = same("of(" + a + ", " + b + ", 0)", x.of(a, b, 0), m.of(a, b, 0));
                }
            }
            return so;
        }

        String clause() {
            String number = "" + random.nextInt(random.nextBoolean() ? 6 : 100);
            switch (random.nextInt(9)) {
                case 0: return "n" + (random.nextInt(5) + 2);
                case 1: case 2: case 3: return "d" + random.nextInt(6) + random.nextInt(6) + number;
                case 4: case 5: case 6:
                    StringBuilder s = new StringBuilder("s");
                    int digits = 1 + random.nextInt(4);
                    for (int i = 0; i < digits; i++) s.append(random.nextInt(random.nextInt(5) == 0 ? 6 : 4));
                    return s + " " + number;
                case 7: return "m" + random.nextInt(4);
                default: return "h";
            }
        }
    }

    /** The document, word by word. */
    static final class Model {
        static final int NONE = -1, BAD = -2, STATE = -3, FULL = -4, NOT = -5;
        static final long NO = Long.MIN_VALUE;
        static final String CLAUSE = "(?:n[0-9]|d[0-9][0-9][0-9]{1,2}|s[0-9]{1,4} [0-9]{1,2}|m[0-9]{1,2}|h)";
        static final Pattern SETUP = Pattern.compile(CLAUSE + "(?:;" + CLAUSE + "){0,11}", Pattern.DOTALL);
        static final Map<String, List<int[]>> HULLS = new HashMap<>();

        int n;
        int[][] d;
        int[] f;
        int[] to;
        List<int[]> seen = new ArrayList<>(), events = new ArrayList<>(), book = new ArrayList<>();
        String text = "";
        Model kept = null;
        long[][] tapes = new long[6][];
        int[] sorts = new int[6];

        Model() { points(4); }

        boolean is(int p) { return 0 <= p && p < n; }
        boolean isTwo(int x, int y) { return is(x) && is(y) && x != y; }
        static int one(boolean so) { return so ? 1 : 0; }

        int points(int many) {
            if (many < 3 || many > 5) return BAD;
            int was = n;
            n = many;
            d = new int[n][n];
            for (int x = 0; x < n; x++) for (int y = 0; y < n; y++) d[x][y] = x == y ? 0 : 2;
            f = new int[n];
            to = new int[n];
            for (int x = 0; x < n; x++) to[x] = x;
            return was;
        }

        int set(int x, int y, int v) {
            if (!isTwo(x, y)) return NONE;
            if (v < 0 || v > 40) return BAD;
            int was = d[x][y];
            d[x][y] = d[y][x] = v;
            return was;
        }

        /** By all ways of up to n steps. */
        static int[][] shortened(int[][] d) {
            int n = d.length;
            int[][] s = new int[n][n];
            for (int x = 0; x < n; x++) {
                int[] best = new int[n];
                Arrays.fill(best, 100000);
                best[x] = 0;
                for (int step = 0; step < n; step++) {
                    for (int a = 0; a < n; a++) for (int b = 0; b < n; b++) best[b] = Math.min(best[b], best[a] + d[a][b]);
                }
                s[x] = best;
            }
            return s;
        }

        int shorten() {
            int[][] s = shortened(d);
            int many = 0;
            for (int x = 0; x < n; x++) for (int y = 0; y < x; y++) many += one(s[x][y] != d[x][y]);
            d = s;
            return many;
        }

        int function(int p, int v) {
            if (!is(p)) return NONE;
            if (v < 0 || v > 160) return BAD;
            int was = f[p];
            f[p] = v;
            return was;
        }

        int least(int what, int which) {
            if (what != 0 && what != 1) return NONE;
            int[] now = f.clone();
            if (what == 1) {
                if (!isTable(d)) return STATE;
                if (which < 0 || which >= hull().size()) return NONE;
                now = hull().get(which).clone();
            } else {
                for (int x = 0; x < n; x++) {
                    int v = 0;
                    for (int y = 0; y < n; y++) if (y != x) v = Math.max(v, 2 * d[x][y] - now[y]);
                    now[x] = v;
                }
            }
            int many = 0;
            for (int x = 0; x < n; x++) many += one(now[x] != f[x]);
            f = now;
            return many;
        }

        int map(int p, int q) {
            if (!is(p) || !is(q)) return NONE;
            int was = to[p];
            to[p] = q;
            return was;
        }

        int feed(int sign) {
            if (sign < 0 || sign > 127) return BAD;
            if (text.length() == 100) return FULL;
            text += (char) sign;
            return text.length();
        }

        static boolean goesOn(String beginning) {
            Matcher matcher = SETUP.matcher(beginning);
            return matcher.matches() || matcher.hitEnd();
        }

        int read() {
            String t = text;
            text = "";
            for (int i = 0; i < t.length(); i++) if (!goesOn(t.substring(0, i + 1))) return -10 - i;
            if (!SETUP.matcher(t).matches()) return -10 - t.length();
            int done = 0;
            for (String c : t.split(";")) done += one(doClause(c));
            return done;
        }

        boolean doClause(String c) {
            if (c.equals("h")) { shorten(); return true; }
            if (c.charAt(0) == 'n') return points(c.charAt(1) - '0') >= 0;
            if (c.charAt(0) == 'd') return set(c.charAt(1) - '0', c.charAt(2) - '0', Integer.parseInt(c.substring(3))) >= 0;
            int by = Integer.parseInt(c.replaceAll("^m|^s.* ", ""));
            String told = c.charAt(0) == 's' ? c.substring(1, c.indexOf(' ')) : "";
            for (char digit : told.toCharArray()) if (!is(digit - '0')) return false;
            for (int x = 0; x < n; x++) for (int y = 0; y < n; y++) {
                boolean parted = (told.indexOf('0' + x) >= 0) != (told.indexOf('0' + y) >= 0);
                int v = c.charAt(0) == 'm' ? d[x][y] * by : parted ? d[x][y] + by : d[x][y];
                d[x][y] = Math.min(40, v);
            }
            return true;
        }

        int of(int x, int y, int what) {
            if (!is(x) || !is(y) || what < 0 || what > 2) return NONE;
            if (what == 0) return d[x][y];
            if (what == 1) return shortened(d)[x][y];
            int rest = 2 * d[x][y];
            for (int[] s : counting(d)) if (parts(s[0], x, y)) rest -= s[1];
            return rest;
        }

        static boolean parts(int bits, int x, int y) { return (bits >> x & 1) != (bits >> y & 1); }

        static int barred(int[][] d) {
            int n = d.length;
            for (int x = 0; x < n; x++) for (int y = 0; y < n; y++) for (int z = 0; z < n; z++)
                if (d[x][z] > d[x][y] + d[y][z]) return 100 * x + 10 * y + z;
            return NOT;
        }

        static boolean isTable(int[][] d) { return barred(d) == NOT; }

        static boolean isTree(int[][] d) {
            if (!isTable(d)) return false;
            int n = d.length;
            for (int a = 0; a < n; a++) for (int b = 0; b < n; b++) for (int c = 0; c < n; c++) for (int e = 0; e < n; e++) {
                if (a == b || a == c || a == e || b == c || b == e || c == e) continue;
                int[] sums = {d[a][b] + d[c][e], d[a][c] + d[b][e], d[a][e] + d[b][c]};
                Arrays.sort(sums);
                if (sums[1] != sums[2]) return false;
            }
            return true;
        }

        static int weight(int[][] d, int bits) {
            int n = d.length;
            int least = Integer.MAX_VALUE;
            for (int a = 0; a < n; a++) for (int b = 0; b < n; b++) for (int c = 0; c < n; c++) for (int e = 0; e < n; e++) {
                if (parts(bits, a, b) || parts(bits, c, e) || !parts(bits, a, c)) continue;
                int w = Math.max(d[a][b] + d[c][e], Math.max(d[a][c] + d[b][e], d[a][e] + d[b][c])) - d[a][b] - d[c][e];
                least = Math.min(least, w);
            }
            return least;
        }

        static List<int[]> counting(int[][] d) {
            List<int[]> found = new ArrayList<>();
            for (int bits = 1; bits < 1 << d.length; bits++) {
                if (bits % 2 == 0 && weight(d, bits) > 0) found.add(new int[] {bits, weight(d, bits)});
            }
            found.sort(Comparator.comparingInt((int[] s) -> -s[1]).thenComparingInt(s -> s[0]));
            return found;
        }

        int told(int what) {
            List<Integer> gaps = new ArrayList<>();
            for (int x = 0; x < n; x++) for (int y = x + 1; y < n; y++) gaps.add(d[x][y]);
            switch (what) {
                case 0: return n;
                case 1: return one(isTable(d));
                case 2: return barred(d);
                case 3: return counting(d).size();
                case 4: return one(isTree(d));
                case 5: return gaps.stream().mapToInt(g -> g).max().getAsInt();
                case 6: return gaps.stream().mapToInt(g -> g).sum();
                case 7: return gaps.stream().min(Comparator.comparingInt((Integer g) -> -java.util.Collections.frequency(gaps, g))
                    .thenComparingInt(g -> g)).get();
                case 8: return orders().stream().mapToInt(this::roundOf).min().getAsInt();
                case 9: return (int) orders().stream().filter(o -> keepsDistances(o)).count();
                default: return NONE;
            }
        }

        List<int[]> orders() {
            List<int[]> found = new ArrayList<>();
            for (int code = 0; code < Math.pow(n, n); code++) {
                int[] o = new int[n];
                int rest = code, met = 0;
                for (int i = 0; i < n; i++) { o[i] = rest % n; rest /= n; met |= 1 << o[i]; }
                if (met == (1 << n) - 1) found.add(o);
            }
            return found;
        }

        int roundOf(int[] o) {
            int sum = 0;
            for (int i = 0; i < n; i++) sum += d[o[i]][o[(i + 1) % n]];
            return sum;
        }

        boolean keepsDistances(int[] o) {
            for (int x = 0; x < n; x++) for (int y = 0; y < n; y++) if (d[o[x]][o[y]] != d[x][y]) return false;
            return true;
        }

        boolean keeps(int[] g) {
            for (int x = 0; x < n; x++) for (int y = 0; y < n; y++) if (x != y && g[x] + g[y] < 2 * d[x][y]) return false;
            return true;
        }

        boolean isTight(int[] g, int x, int y) { return g[x] + g[y] == 2 * d[x][y]; }

        boolean isLeast(int[] g) {
            if (!keeps(g)) return false;
            for (int x = 0; x < n; x++) {
                boolean met = false;
                for (int y = 0; y < n; y++) met |= isTight(g, x, y);
                if (!met) return false;
            }
            return true;
        }

        /** Whether from x a walk of so many tight twos may end at y. */
        boolean walk(int[] g, int x, int y, int steps) {
            boolean[] at = new boolean[n];
            at[x] = true;
            for (int s = 0; s < steps; s++) {
                boolean[] next = new boolean[n];
                for (int a = 0; a < n; a++) for (int b = 0; b < n; b++) next[b] |= at[a] && isTight(g, a, b);
                at = next;
            }
            return at[y];
        }

        int depth(int[] g) {
            int lots = 0, odd = 0;
            boolean[] done = new boolean[n];
            for (int x = 0; x < n; x++) {
                if (done[x]) continue;
                lots++;
                boolean round = false;
                for (int y = 0; y < n; y++) {
                    boolean hangs = false;
                    for (int steps = 0; steps <= n; steps++) hangs |= walk(g, x, y, steps);
                    if (!hangs) continue;
                    done[y] = true;
                    for (int steps = 1; steps <= 2 * n + 1; steps += 2) round |= walk(g, y, y, steps);
                }
                odd += one(round);
            }
            return lots - odd;
        }

        boolean isCorner(int[] g) { return isLeast(g) && depth(g) == 0; }

        /** Each point picks a point to be tight with: if all rounds of picks are odd, the numbers follow. */
        List<int[]> hull() {
            return HULLS.computeIfAbsent(Arrays.deepToString(d), key -> {
                List<int[]> found = new ArrayList<>();
                for (int code = 0; code < Math.pow(n, n); code++) {
                    int[] pick = new int[n];
                    int rest = code;
                    for (int i = 0; i < n; i++) { pick[i] = rest % n; rest /= n; }
                    int[] g = solve(pick);
                    if (g != null && isCorner(g) && found.stream().noneMatch(h -> Arrays.equals(h, g))) found.add(g);
                }
                found.sort(Arrays::compare);
                return found;
            });
        }

        int[] solve(int[] pick) {
            int[] g = new int[n];
            for (int x = 0; x < n; x++) {
                int p = x, sign = 1, sum = 0;
                for (int s = 0; s < n; s++) { sum += sign * 2 * d[p][pick[p]]; sign = -sign; p = pick[p]; }
                int q = p, turn = 1, round = 0, length = 0;
                do { round += turn * 2 * d[q][pick[q]]; turn = -turn; q = pick[q]; length++; } while (q != p);
                if (length % 2 == 0) return null;
                g[x] = sum + sign * round / 2;
                if (g[x] < 0) return null;
            }
            return g;
        }

        int functionOf(int what) {
            if (is(what)) return f[what];
            if (what == 10) return one(keeps(f));
            if (what == 11) return one(isLeast(f));
            if (what == 12) return isLeast(f) ? depth(f) : NOT;
            return NONE;
        }

        int mapOf(int what) {
            if (is(what)) return to[what];
            if (what == 10) return one(keepsDistances(to));
            if (what != 11) return NONE;
            for (int x = 0; x < n; x++) for (int y = 0; y < n; y++) if (d[to[x]][to[y]] > d[x][y]) return 0;
            return 1;
        }

        int middle(int x, int y, int z) {
            return is(x) && is(y) && is(z) ? d[x][y] + d[x][z] - d[y][z] : NONE;
        }

        int corners() { return isTable(d) ? hull().size() : STATE; }

        int refusal(int... told) {
            if (!isTable(d)) return STATE;
            for (int c : told) if (c < 0 || c >= hull().size()) return NONE;
            return 0;
        }

        int at(int c, int p) {
            if (refusal(c) != 0) return refusal(c);
            return is(p) ? hull().get(c)[p] : NONE;
        }

        List<String> tights(int c) {
            List<String> found = new ArrayList<>();
            for (int x = 0; x < n; x++) for (int y = x; y < n; y++) if (isTight(hull().get(c), x, y)) found.add("" + x + y);
            return found;
        }

        List<String> cell(int c, int e) {
            List<String> both = tights(c);
            both.retainAll(tights(e));
            return both;
        }

        boolean beside(int c, int e) {
            List<String> cell = cell(c, e);
            String all = String.join("", cell);
            for (int x = 0; x < n; x++) if (all.indexOf('0' + x) < 0) return false;
            for (int third = 0; third < hull().size(); third++) {
                if (third != c && third != e && tights(third).containsAll(cell)) return false;
            }
            return c != e;
        }

        int[] eyeNumbers(int p) {
            int[] g = new int[n];
            for (int y = 0; y < n; y++) g[y] = 2 * d[p][y];
            return g;
        }

        int corner(int c, int what) {
            if (refusal(c) != 0) return refusal(c);
            if (what == 0) return tights(c).size();
            int many = 0;
            if (what == 1) {
                for (int e = 0; e < hull().size(); e++) many += one(beside(c, e));
                return many;
            }
            if (what != 2) return NONE;
            for (int p = 0; p < n; p++) if (Arrays.equals(eyeNumbers(p), hull().get(c))) return p;
            return NOT;
        }

        int tight(int c, int x, int y) {
            if (refusal(c) != 0) return refusal(c);
            return is(x) && is(y) ? one(isTight(hull().get(c), x, y)) : NONE;
        }

        int two(int c, int e, int what) {
            if (refusal(c, e) != 0) return refusal(c, e);
            if (what == 1) return one(beside(c, e));
            if (what == 2) return cell(c, e).size();
            if (what != 0) return NONE;
            int most = 0;
            for (int x = 0; x < n; x++) most = Math.max(most, Math.abs(hull().get(c)[x] - hull().get(e)[x]));
            return most;
        }

        int eye(int p) {
            if (refusal() != 0) return refusal();
            if (!is(p)) return NONE;
            for (int c = 0; c < hull().size(); c++) if (Arrays.equals(eyeNumbers(p), hull().get(c))) return c;
            return -999;
        }

        boolean isSplit(int bits) { return bits > 0 && bits % 2 == 0 && bits <= (1 << n) - 1; }
        int weight(int bits) { return isSplit(bits) ? weight(d, bits) : NONE; }

        int split(int i, int what) {
            if (i < 0 || what < 0 || what > 1) return NONE;
            return i < counting(d).size() ? counting(d).get(i)[what] : NOT;
        }

        int see(int bits, int v) {
            if (bits == -1) { seen.clear(); return 0; }
            if (!isSplit(bits)) return NONE;
            if (v < 0 || v > 99) return BAD;
            return come(seen, 4, bits, v);
        }

        static int come(List<int[]> rows, int most, int... row) {
            if (rows.size() == most) return FULL;
            rows.add(row);
            return rows.size();
        }

        int fits(int x, int y, int what) {
            if (!isTwo(x, y) || what < 0 || what > 1) return NONE;
            List<Integer> good = new ArrayList<>();
            for (int v = 0; v <= 40; v++) {
                int[][] e = new int[n][];
                for (int a = 0; a < n; a++) e[a] = d[a].clone();
                e[x][y] = e[y][x] = v;
                boolean so = isTable(e);
                for (int[] s : seen) so = so && isSplit(s[0]) && weight(e, s[0]) == s[1];
                if (so) good.add(v);
            }
            return what == 0 ? good.size() : good.isEmpty() ? NOT : good.get(0);
        }

        static long part(long above, long below, int part) {
            if (below == 0 || part < 0 || part > 1) return NO;
            long g = BigInteger.valueOf(above).gcd(BigInteger.valueOf(below)).longValue();
            return part == 0 ? above / g : below / g;
        }

        long odds(int x, int y, int part) {
            if (!isTwo(x, y)) return NO;
            return part(counting(d).stream().filter(s -> parts(s[0], x, y)).count(), counting(d).size(), part);
        }

        long mean(int part) { return part(told(6), n * (n - 1) / 2, part); }

        int event(int what, int k) {
            if (what == -1) { events.clear(); return 0; }
            if (what < 0 || what > 2 || what == 0 && !is(k)) return NONE;
            if (what == 1 && (k < 0 || k > 9) || what == 2 && k != 0) return BAD;
            return come(events, 8, what, k);
        }

        int after(int what) {
            if (what < 0 || what > 2) return NONE;
            int[][] e = new int[n][];
            for (int a = 0; a < n; a++) e[a] = d[a].clone();
            for (int[] row : events) {
                if (row[0] == 2) { e = shortened(e); continue; }
                for (int a = 0; a < n; a++) for (int b = 0; b < n; b++) {
                    if (row[0] == 0 && a != b && (a == row[1] || b == row[1])) e[a][b] = Math.min(40, e[a][b] + 1);
                    if (row[0] == 1) e[a][b] = Math.max(0, e[a][b] - row[1]);
                }
            }
            return what == 0 ? one(isTable(e)) : what == 1 ? counting(e).size() : one(isTree(e));
        }

        int book(int x, int y, int v) {
            if (x == -1) { book.clear(); return 0; }
            if (!isTwo(x, y)) return NONE;
            if (v < 0 || v > 40) return BAD;
            return come(book, 8, x, y, v);
        }

        int looked() {
            for (int i = 0; i < book.size(); i++) {
                int[] r = book.get(i);
                if (!isTwo(r[0], r[1]) || d[r[0]][r[1]] != r[2]) return i;
            }
            return NOT;
        }

        int judge(int t, int i) {
            if (t < 0 || t > 5) return NONE;
            if (tapes[t] != null && sorts[t] != 2) return -12;
            if (tapes[t] == null || i < 0) return 100;
            int looked = 0;
            for (int x = 0; x < n; x++) for (int y = x + 1; y < n; y++) {
                if ((long) i + looked >= tapes[t].length) return 100 + looked;
                if (tapes[t][i + looked] != d[x][y]) return 10 * x + y;
                looked++;
            }
            return NOT;
        }

        int image() {
            kept = new Model();
            kept.copy(this);
            return told(6);
        }

        void copy(Model other) {
            n = other.n;
            d = new int[n][];
            for (int a = 0; a < n; a++) d[a] = other.d[a].clone();
            f = other.f.clone();
            to = other.to.clone();
            seen = new ArrayList<>(other.seen);
            events = new ArrayList<>(other.events);
            book = new ArrayList<>(other.book);
        }

        int undo() {
            if (kept == null) return STATE;
            copy(kept);
            return told(6);
        }

        int count(int what) {
            int[] all = {seen.size(), events.size(), book.size(), text.length()};
            return what >= 0 && what < 4 ? all[what] : BAD;
        }

        int tape(int t, int sort, int many) {
            if (t < 0 || t > 5) return NONE;
            if (sort < -1 || sort > 4) return BAD;
            if (sort >= 0 && many > 60) return BAD;
            if (sort >= 0 && many < 0) return -14;
            tapes[t] = sort < 0 ? null : new long[many];
            sorts[t] = sort;
            return 1;
        }

        int item(int t, int i, long v) {
            if (t < 0 || t > 5) return NONE;
            if (tapes[t] == null) return -11;
            if (i < 0 || i >= tapes[t].length) return -13;
            long[] all = {(byte) v, (short) v, (int) v, v, v == 0 ? 0 : 1};
            tapes[t][i] = all[sorts[t]];
            return 1;
        }

        long peek(int t, int i) {
            return t < 0 || t > 5 || tapes[t] == null || i < 0 || i >= tapes[t].length ? NO : tapes[t][i];
        }

        int shift(int t, int i, int u, int j, int many) {
            if (t < 0 || t > 5 || u < 0 || u > 5) return NONE;
            if (tapes[t] == null || tapes[u] == null) return -11;
            if (sorts[t] != sorts[u]) return -12;
            if (many < 0 || i < 0 || j < 0) return -13;
            if ((long) i + many > tapes[t].length || (long) j + many > tapes[u].length) return -13;
            long[] before = tapes[t].clone();
            for (int k = 0; k < many; k++) tapes[u][j + k] = before[i + k];
            return many;
        }
    }
}
