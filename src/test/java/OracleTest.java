import java.math.BigInteger;
import java.util.ArrayList;
import java.util.Arrays;
import java.util.List;
import java.util.Random;
import java.util.regex.Matcher;
import java.util.regex.Pattern;

/**
 * Runs of random calls against a second telling of the document, slow and plain on purpose: it takes
 * a LAW apart as a text each time, finds a FAULT by looking for ways to go on, and counts odds by
 * going through all rows of sides.
 */
public final class OracleTest {
    private static final int NONE = -1, BAD = -2, STATE = -3, FULL = -4;
    private static final long NO = Long.MIN_VALUE;

    // ---- what a LAW is

    private static final String NUMBER = "(0|[1-9][0-9]?)";
    private static final Pattern WITH_NUMBER = Pattern.compile("(turn|lean) " + NUMBER + " ([^ ]*)");
    private static final Pattern SKIP = Pattern.compile("skip ([^ ]*)");
    private static final Pattern CATCH = Pattern.compile("catch " + NUMBER);
    private static final Pattern TEST = Pattern.compile("[rebht][<=>]" + NUMBER);
    private static final Pattern NEGATED = Pattern.compile("!([A-Z])");
    private static final Pattern JOINED = Pattern.compile("(?<!!)([A-Z])[&|]([A-Z])");
    private static final Pattern CLOSED = Pattern.compile("\\(([A-Z])\\)");

    /** Whether the text is E with at most 5 open: an A stands for what has none open in it, B one .. */
    static boolean isWhen(String text) {
        if (!text.matches("[rebht<=>0-9!&|()]+")) return false;
        String rest = TEST.matcher(text).replaceAll("A");
        for (int k = 0; k < 200; k++) {
            String next = step(rest);
            if (next == null) break;
            rest = next;
        }
        return rest.length() == 1 && rest.charAt(0) >= 'A' && rest.charAt(0) <= 'F';
    }

    private static String step(String s) {
        Matcher m = NEGATED.matcher(s);
        if (m.find()) return put(s, m, (char) (m.group(1).charAt(0) + 1));
        m = CLOSED.matcher(s);
        if (m.find()) return put(s, m, (char) (m.group(1).charAt(0) + 1));
        m = JOINED.matcher(s);
        if (m.find()) return put(s, m, (char) Math.max(m.group(1).charAt(0), m.group(2).charAt(0)));
        return null;
    }

    private static String put(String s, Matcher m, char c) {
        return s.substring(0, m.start()) + (char) Math.min(c, 'Z') + s.substring(m.end());
    }

    static boolean isClause(String text) {
        if (CATCH.matcher(text).matches()) return true;
        Matcher m = WITH_NUMBER.matcher(text);
        if (m.matches()) return isWhen(m.group(3));
        m = SKIP.matcher(text);
        return m.matches() && isWhen(m.group(1));
    }

    static boolean isLaw(String text) {
        String[] clauses = text.split(";", -1);
        if (clauses.length > 8) return false;
        for (String clause : clauses) if (!isClause(clause)) return false;
        return true;
    }

    private static final List<String> WAYS_ON = waysOn();

    private static List<String> waysOn() {
        List<String> ways = new ArrayList<>();
        String[] wholes = {"turn 1 r<1", "lean 1 r<1", "skip r<1", "catch 1"};
        for (String whole : wholes) {
            for (int at = 0; at <= whole.length(); at++) {
                String way = whole.substring(at);
                if (!ways.contains(way)) ways.add(way);
            }
        }
        return ways;
    }

    /** Whether some LAW begins with the text. */
    static boolean canGoOn(String text) {
        String closing = "";
        for (int k = 0; k <= 5; k++) {
            for (String way : WAYS_ON) if (isLaw(text + way + closing)) return true;
            closing += ")";
        }
        return false;
    }

    /** -1: a LAW. */
    static int fault(String text) {
        if (isLaw(text)) return -1;
        for (int k = 0; k < text.length(); k++) if (!canGoOn(text.substring(0, k + 1))) return k;
        return text.length();
    }

    // ---- E, looked through as a text

    static boolean holds(String when, int r, int e, int b, int h, int t) {
        int bar = topLevel(when, '|');
        if (bar >= 0) {
            boolean left = holds(when.substring(0, bar), r, e, b, h, t);
            return holds(when.substring(bar + 1), r, e, b, h, t) || left;
        }
        int and = topLevel(when, '&');
        if (and >= 0) {
            boolean left = holds(when.substring(0, and), r, e, b, h, t);
            return holds(when.substring(and + 1), r, e, b, h, t) && left;
        }
        if (when.startsWith("!")) return !holds(when.substring(1), r, e, b, h, t);
        if (when.startsWith("(")) return holds(when.substring(1, when.length() - 1), r, e, b, h, t);
        int[] values = {r, e, b, h, t};
        int x = values["rebht".indexOf(when.charAt(0))], n = Integer.parseInt(when.substring(2));
        return when.charAt(1) == '<' ? x < n : when.charAt(1) == '=' ? x == n : x > n;
    }

    private static int topLevel(String s, char c) {
        int open = 0;
        for (int k = 0; k < s.length(); k++) {
            if (s.charAt(k) == '(') open++;
            if (s.charAt(k) == ')') open--;
            if (open == 0 && s.charAt(k) == c) return k;
        }
        return -1;
    }

    // ---- the second telling

    static final class Law {
        String text;
        int kind, v;

        int caught() {
            int n = 0;
            for (String c : text.split(";")) if (c.startsWith("catch")) n = Integer.parseInt(c.substring(6));
            return n;
        }

        /** What is UP at each TICK (from 1 on); at 0 the ANGLE behind the THROW. */
        int[] fly(int[] coin, int hand, int rise, int lay) {
            int last = rise + caught(), angle = 0;
            int[] up = new int[last + 1];
            for (int t = 1; t <= last; t++) {
                int turn = 0, lean = 0;
                boolean skip = false;
                for (String c : text.split(";")) {
                    String[] w = c.split(" ");
                    if (w[0].equals("catch") || !holds(w[w.length - 1], rise, coin[0], coin[1], hand, t)) continue;
                    if (w[0].equals("turn")) turn += Integer.parseInt(w[1]);
                    if (w[0].equals("lean")) lean += Integer.parseInt(w[1]);
                    if (w[0].equals("skip")) skip = true;
                }
                if (!skip) angle = (angle + turn) % 100;
                up[t] = side(angle, Math.min(49, lean), t == last, coin, lay);
            }
            up[0] = angle;
            return up;
        }

        int side(int angle, int lean, boolean isLast, int[] coin, int lay) {
            int other = 1 - lay, told = angle < 50 ? lay : other;
            switch (kind) {
                case 0: return lay;
                case 1: return told;
                case 2: return angle < 50 + lean ? lay : other;
                case 6: return lean >= v || angle < 50 + lean ? lay : other;
                case 5: return coin[0] >= v ? 0 : 1;
                default:
                    int flips = isLast ? v % 2 : 0;
                    if (kind == 4 && isLast && v > 0) flips += coin[1] / v;
                    return flips % 2 == 0 ? told : 1 - told;
            }
        }
    }

    static final class Told {
        List<int[]> coins = new ArrayList<>(), hands = new ArrayList<>();
        List<Law> laws = new ArrayList<>();
        int[][][] counts = new int[6][6][2];
        String tape = "", row = "";
        List<Integer> trace = new ArrayList<>();
        Told image;

        void become(Told o) {
            coins = new ArrayList<>(o.coins);
            hands = new ArrayList<>(o.hands);
            laws = new ArrayList<>(o.laws);
            counts = new int[6][6][];
            for (int h = 0; h < 6; h++) for (int c = 0; c < 6; c++) counts[h][c] = o.counts[h][c].clone();
            tape = o.tape;
            row = o.row;
        }

        boolean in(long x, long a, long b) { return a <= x && x <= b; }
        boolean isC(int c) { return in(c, 0, coins.size() - 1); }
        boolean isH(int h) { return in(h, 0, hands.size() - 1); }
        boolean isL(int l) { return in(l, 0, laws.size() - 1); }
        boolean isAll(int l, int h, int c) { return isL(l) && isH(h) && isC(c); }

        int sum(int h, int i) {
            int s = 0;
            for (int[] c : counts[h]) s += c[i];
            return s;
        }

        int comes(int l, int h, int c, int rise, int lay) {
            int[] up = laws.get(l).fly(coins.get(c), h, rise, lay);
            return up[up.length - 1];
        }

        int heads(int l, int h, int c, int lay) {
            int n = 0;
            int[] hand = hands.get(h);
            for (int r = hand[0] - hand[1]; r <= hand[0] + hand[1]; r++) n += comes(l, h, c, r < 1 ? 1 : r, lay);
            return n;
        }

        static long part(long a, long b, int part) {
            BigInteger x = BigInteger.valueOf(a), y = BigInteger.valueOf(b);
            return (part == 0 ? x : y).divide(x.gcd(y)).longValue();
        }

        static int runs(String row) {
            int n = 0;
            for (int k = 0; k < row.length(); k++) if (k == 0 || row.charAt(k) != row.charAt(k - 1)) n++;
            return n;
        }

        /** Pascal's triangle, row by row. */
        static long[] pascal(int n) {
            long[] row = {1};
            for (int k = 0; k < n; k++) {
                long[] next = new long[row.length + 1];
                for (int j = 0; j < row.length; j++) {
                    next[j] += row[j];
                    next[j + 1] += row[j];
                }
                row = next;
            }
            return row;
        }

        static BigInteger odds(int n, int k, int p) {
            BigInteger odds = BigInteger.ZERO;
            for (int bits = 0; bits < 1 << n; bits++) {
                int ones = Integer.bitCount(bits);
                if (ones < k) continue;
                BigInteger some = BigInteger.valueOf(p).pow(ones);
                odds = odds.add(some.multiply(BigInteger.valueOf(100 - p).pow(n - ones)));
            }
            return odds;
        }

        static int need(int p, int a, int b) {
            for (int n = 1; n <= 8; n++) {
                BigInteger all = BigInteger.valueOf(100).pow(n), hundred = BigInteger.valueOf(100);
                for (int k = 0; k <= n; k++) {
                    boolean one = odds(n, k, p).multiply(hundred).compareTo(all.multiply(BigInteger.valueOf(a))) >= 0;
                    boolean even = odds(n, k, 50).multiply(hundred).compareTo(all.multiply(BigInteger.valueOf(b))) <= 0;
                    if (one && even) return 10 * n + k;
                }
            }
            return -5;
        }

        // ---- ACTS: for each KIND the one above it, and which body it has of each act

        static final int[] ABOVE = {-1, 0, 1, 0, 3, 0, 2};
        static final int[][] BODY = {{1, 2, 3}, {11, 0, 0}, {0, 0, 41}, {0, 21, 0}, {0, 61, 0}, {0, 0, 31}, {51, 0, 0}};

        int run(int l, int from, int act, int x) {
            Law law = laws.get(l);
            int kind = from;
            while (BODY[kind][act] == 0) kind = ABOVE[kind];
            int up = ABOVE[kind], me = law.kind;
            trace.add(BODY[kind][act]);
            switch (BODY[kind][act]) {
                case 1: return x + l;
                case 2: return run(l, me, 0, x) - law.v;
                case 3: return run(l, me, 1, x) * 2;
                case 11: return run(l, up, 0, x * 3);
                case 21: return -run(l, up, 1, x);
                case 31: return run(l, up, 2, x) ^ 7;
                case 41:
                    int first = run(l, up, 2, x - 1);
                    return first + run(l, me, 0, 2);
                case 51: return run(l, up, 0, x) ^ l;
                default: return run(l, up, 1, x) + law.v;
            }
        }

        long coin(int e, int b) {
            if (!in(e, 0, 9) || !in(b, 0, 9)) return BAD;
            if (coins.size() == 6) return FULL;
            coins.add(new int[] {e, b});
            return coins.size() - 1;
        }

        long hand(int r, int w) {
            if (!in(r, 1, 30) || !in(w, 0, 9)) return BAD;
            if (hands.size() == 6) return FULL;
            hands.add(new int[] {r, w});
            return hands.size() - 1;
        }

        long leans(int h) { return sum(h, 0) == 0 ? -5 : sum(h, 1) * 1000 / sum(h, 0); }

        long of(int h, int what) {
            if (!isH(h) || !in(what, 0, 4)) return NONE;
            return what < 2 ? hands.get(h)[what] : what == 2 ? leans(h) : sum(h, what - 3);
        }

        long counts(int h, int c, int n, int s) {
            if (!isH(h) || !isC(c)) return NONE;
            if (!in(n, 0, 999) || !in(s, 0, n)) return BAD;
            int were = counts[h][c][0];
            counts[h][c] = new int[] {n, s};
            return were;
        }

        long feed(long w, int n) {
            if (!in(n, 1, 8)) return BAD;
            if (tape.length() + n > 120) return FULL;
            String some = "";
            for (int k = 0; k < n; k++) some = (char) (w >> 8 * k & 255) + some;
            tape += some;
            return tape.length();
        }

        long law(int kind, int v) {
            if (!in(kind, 0, 6)) return NONE;
            if (!in(v, 0, 9)) return BAD;
            if (laws.size() == 8) return FULL;
            Law law = new Law();
            law.text = tape;
            law.kind = kind;
            law.v = v;
            tape = "";
            int fault = fault(law.text);
            if (fault >= 0) return -10 - fault;
            laws.add(law);
            return laws.size() - 1;
        }

        long told(int l, int what) {
            if (!isL(l) || !in(what, 0, 2)) return NONE;
            Law law = laws.get(l);
            return what == 0 ? law.kind : what == 1 ? law.v : law.caught();
        }

        long toss(int l, int h, int c, int rise, int what) {
            if (!isAll(l, h, c) || !in(what, 0, 3)) return NONE;
            if (!in(rise, 1, 40)) return BAD;
            int[] up = laws.get(l).fly(coins.get(c), h, rise, 1);
            int last = up.length - 1;
            return what == 0 ? up[last] : what == 1 ? up[0] : what == 2 ? Arrays.stream(up, 1, last + 1).sum() : last;
        }

        long up(int l, int h, int c, int rise, int tick) {
            if (!isAll(l, h, c)) return NONE;
            if (!in(rise, 1, 40) || !in(tick, 1, rise + laws.get(l).caught())) return BAD;
            return laws.get(l).fly(coins.get(c), h, rise, 1)[tick];
        }

        long same(int l, int h, int c, int part) {
            if (!isAll(l, h, c) || !in(part, 0, 1)) return NO;
            return part(heads(l, h, c, 1), 2 * hands.get(h)[1] + 1, part);
        }

        long heads(int l, int h, int c, int n, int part) {
            if (!isAll(l, h, c) || !in(part, 0, 1) || !in(n, 0, 100)) return NO;
            long above = n * heads(l, h, c, 1) + (100 - n) * heads(l, h, c, 0);
            return part(above, 100 * (2 * hands.get(h)[1] + 1), part);
        }

        long steady(int l, int h, int c, int what) {
            if (!isAll(l, h, c) || !in(what, 0, 1)) return NONE;
            String all = "";
            for (int r = 1; r <= 40; r++) all += comes(l, h, c, r, 1);
            if (what == 0) return all.replace("0", "").length();
            int at = all.indexOf(all.charAt(0) == '0' ? '1' : '0');
            return at < 0 ? -5 : at + 1;
        }

        long differ() {
            List<Long> all = new ArrayList<>();
            for (int h = 0; h < hands.size(); h++) if (leans(h) != -5) all.add(leans(h));
            all.sort(null);
            return all.size() < 2 ? -5 : all.get(all.size() - 1) - all.get(0);
        }

        long far(int h, int what, int part) {
            if (!isH(h) || !in(what, 0, 1) || !in(part, 0, 1) || sum(h, 0) > 30) return NO;
            long[] ways = pascal(sum(h, 0));
            long above = 0;
            for (int k = sum(h, 1); k < ways.length; k++) if (what == 1 || k == sum(h, 1)) above += ways[k];
            return part(above, 1L << sum(h, 0), part);
        }

        long needed(int p, int a, int b) {
            return in(p, 0, 100) && in(a, 0, 100) && in(b, 0, 100) ? need(p, a, b) : BAD;
        }

        long row(int side) {
            if (!in(side, -1, 1)) return BAD;
            if (side >= 0 && row.length() == 16) return FULL;
            row = side < 0 ? "" : row + side;
            return row.length();
        }

        long ran(int what) {
            if (!in(what, 0, 1)) return NONE;
            if (what == 0) return runs(row);
            for (int k = 16; k > 0; k--) if (row.contains("0".repeat(k)) || row.contains("1".repeat(k))) return k;
            return 0;
        }

        long made(int part) {
            if (!in(part, 0, 1)) return NONE;
            int n = row.length(), above = 0, mine = runs(row);
            for (int bits = 0; bits < 1 << n; bits++) {
                int changes = n < 2 ? 0 : Integer.bitCount((bits ^ bits >> 1) & (1 << n - 1) - 1);
                if ((n == 0 ? 0 : 1 + changes) <= mine) above++;
            }
            return part(above, 1 << n, part);
        }

        long worth(int l, int h, int c, int n) {
            if (!isAll(l, h, c)) return -1001;
            if (!in(n, 0, 100)) return -1002;
            long d = 2 * hands.get(h)[1] + 1, s = heads(l, h, c, 1), w = Math.max(s, d - s);
            // of 100 d throws those that he wins and loses
            long wins = w * (100 - n) + (d - w) * n, loses = 100 * d - wins;
            return 1000 * (wins - loses) / (100 * d);
        }

        long fair(int p, int part) {
            if (!in(part, 0, 1)) return NONE;
            return in(p, 1, 99) ? part(10000, p * (100 - p), part) : BAD;
        }

        long learns(int h, int n, int m, int what) {
            if (!isH(h) || !in(what, 0, 1)) return NONE;
            if (!in(n, 0, 9) || !in(m, 0, 9)) return BAD;
            int rise = hands.get(h)[0], wandering = hands.get(h)[1];
            for (int k = 100; k <= sum(h, 0); k += 100) {
                rise = Math.min(30, rise + n);
                wandering = Math.max(0, wandering - m);
            }
            return what == 0 ? rise : wandering;
        }

        long act(int l, int act, int x) {
            trace.clear();
            return isL(l) && in(act, 0, 2) ? run(l, laws.get(l).kind, act, x) : 0;
        }

        long trace(int i) { return in(i, 0, Math.min(20, trace.size()) - 1) ? trace.get(i) : NONE; }

        long as(int l, int k) {
            if (!isL(l) || !in(k, 0, 6)) return NONE;
            for (int kind = laws.get(l).kind; kind >= 0; kind = ABOVE[kind]) if (kind == k) return laws.get(l).v;
            return -6;
        }

        long image() {
            image = new Told();
            image.become(this);
            return hands.size();
        }

        long undo() {
            if (image == null) return STATE;
            become(image);
            return hands.size();
        }

        long count(int what) {
            int[] all = {coins.size(), hands.size(), laws.size(), row.length(), tape.length(), trace.size()};
            return in(what, 0, 5) ? all[what] : NONE;
        }
    }

    // ---- random runs

    private static int asked = 0, wrong = 0;
    private static Random luck;

    /** Mostly within a .. b, now and then just outside or far off. */
    private static int some(int a, int b) {
        int dice = luck.nextInt(40);
        if (dice == 0) return a - 1;
        if (dice == 1) return b + 1;
        if (dice == 2) return luck.nextInt();
        return a + luck.nextInt(b - a + 1);
    }

    private static int ofThose(int n) { return some(0, Math.max(0, n - 1)); }

    private static String number(int most) { return "" + luck.nextInt(luck.nextInt(most) + 1); }

    private static String when(int open) {
        int dice = luck.nextInt(10);
        if (dice < 2 && open > 0) return "!" + one(open - 1);
        if (dice < 4) return when(open) + "|" + one(open);
        if (dice < 6) return one(open) + "&" + one(open);
        return one(open);
    }

    private static String one(int open) {
        int dice = luck.nextInt(8);
        if (dice == 0 && open > 0) return "!" + one(open - 1);
        if (dice == 1 && open > 0) return "(" + when(open - 1) + ")";
        char letter = "rebhttrt".charAt(luck.nextInt(8));
        return "" + letter + "<=>".charAt(luck.nextInt(3)) + number(letter == 'r' || letter == 't' ? 50 : 10);
    }

    private static String clause() {
        switch (luck.nextInt(6)) {
            case 0: return "skip " + when(5);
            case 1: return "catch " + number(luck.nextInt(4) == 0 ? 100 : 8);
            case 2: return "lean " + number(60) + " " + when(5);
            default: return "turn " + number(100) + " " + when(5);
        }
    }

    private static String text() {
        String text = clause();
        int more = luck.nextInt(luck.nextInt(12) == 0 ? 11 : 4);
        for (int k = 0; k < more; k++) text += ";" + clause();
        if (luck.nextInt(4) == 0) text = spoiled(text);
        return text.substring(0, Math.min(120, text.length()));
    }

    private static String spoiled(String text) {
        int at = luck.nextInt(text.length());
        String signs = "turnleanskipcatch rebht<=>0123456789!()&|;;((!!  xX" + (char) 0 + (char) 200;
        char c = signs.charAt(luck.nextInt(signs.length()));
        switch (luck.nextInt(5)) {
            case 0: return text.substring(0, at);
            case 1: return text.substring(0, at) + text.substring(at + 1);
            case 2: return text.substring(0, at) + c + text.substring(at + 1);
            case 3: return text.substring(0, at) + ("" + c).repeat(1 + luck.nextInt(6)) + text.substring(at);
            default: return text + c;
        }
    }

    private static void same(int run, String call, long got, long want) {
        asked++;
        if (got == want) return;
        wrong++;
        if (wrong < 50) System.out.println("run " + run + ": " + call + " answered " + got + ", due is " + want);
    }

    private static void newLaw(int run, HeadsByHair x, Told y) {
        feedText(run, x, y, text());
        String text = y.tape;
        int kind = some(0, 6), v = some(0, 9);
        same(run, "law(" + kind + ", " + v + ") of '" + text + "'", x.law(kind, v), y.law(kind, v));
    }

    private static void feedText(int run, HeadsByHair x, Told y, String text) {
        for (int at = 0; at < text.length(); ) {
            int n = Math.min(text.length() - at, luck.nextInt(9) == 0 ? 1 + luck.nextInt(8) : 8);
            long w = luck.nextLong();
            for (int k = 0; k < n; k++) w = w << 8 | text.charAt(at + k);
            same(run, "feed(" + w + ", " + n + ")", x.feed(w, n), y.feed(w, n));
            at += n;
        }
    }

    /** An image that is taken while THE TAPE holds a part of a text, which goes on later. */
    private static void imageAmidText(int run, HeadsByHair x, Told y) {
        String text = text();
        int cut = luck.nextInt(text.length() + 1);
        feedText(run, x, y, text.substring(0, cut));
        same(run, "image", x.image(), y.image());
        for (int k = luck.nextInt(3); k >= 0; k--) {
            if (luck.nextBoolean()) newLaw(run, x, y);
            feedText(run, x, y, text());
            same(run, "undo", x.undo(), y.undo());
        }
        feedText(run, x, y, text.substring(cut));
        same(run, "law", x.law(1, 0), y.law(1, 0));
    }

    private static void make(int run, HeadsByHair x, Told y) {
        int a = some(0, 9), b = some(0, 9), c = some(1, 30), h = ofThose(y.hands.size());
        int most = luck.nextInt(3) == 0 ? 999 : 8, n = some(0, most), s = some(0, Math.max(0, Math.min(n, 999)));
        int coin = ofThose(y.coins.size()), side = luck.nextInt(20) == 0 ? -1 : some(0, 1);
        switch (luck.nextInt(9)) {
            case 0: same(run, "coin " + a + " " + b, x.coin(a, b), y.coin(a, b)); break;
            case 1: same(run, "hand " + c + " " + b, x.hand(c, b), y.hand(c, b)); break;
            case 2: case 3: case 4:
                same(run, "counts " + h + " " + coin + " " + n + " " + s, x.counts(h, coin, n, s), y.counts(h, coin, n, s));
                break;
            case 5: newLaw(run, x, y); break;
            case 6:
                if (luck.nextInt(8) == 0) imageAmidText(run, x, y);
                else same(run, "image", x.image(), y.image());
                break;
            case 7:
                if (luck.nextInt(4) == 0) same(run, "undo", x.undo(), y.undo());
                break;
            default: same(run, "row " + side, x.row(side), y.row(side));
        }
    }

    private static void ask(int run, HeadsByHair x, Told y) {
        int l = ofThose(y.laws.size()), h = ofThose(y.hands.size()), c = ofThose(y.coins.size());
        int what = some(0, 4), part = some(0, 1), r = some(1, 40), n = some(0, 100), a = some(0, 100), b = some(0, 100);
        int t = some(1, 48), k = some(0, 6), d = some(0, 9), e = some(0, 9), z = luck.nextBoolean() ? luck.nextInt() : some(0, 9);
        String args = l + " " + h + " " + c;
        switch (luck.nextInt(22)) {
            case 0: same(run, "of " + h + " " + what, x.of(h, what), y.of(h, what)); break;
            case 1: same(run, "told " + l + " " + what, x.told(l, what), y.told(l, what)); break;
            case 2: same(run, "toss " + args + " " + r + " " + what, x.toss(l, h, c, r, what), y.toss(l, h, c, r, what)); break;
            case 3: same(run, "up " + args + " " + r + " " + t, x.up(l, h, c, r, t), y.up(l, h, c, r, t)); break;
            case 4: same(run, "same " + args + " " + part, x.same(l, h, c, part), y.same(l, h, c, part)); break;
            case 5: same(run, "heads " + args + " " + n + " " + part, x.heads(l, h, c, n, part), y.heads(l, h, c, n, part)); break;
            case 6: same(run, "steady " + args + " " + part, x.steady(l, h, c, part), y.steady(l, h, c, part)); break;
            case 7: same(run, "differ", x.differ(), y.differ()); break;
            case 8: same(run, "far " + h + " " + part + " " + (what & 1), x.far(h, part, what & 1), y.far(h, part, what & 1)); break;
            case 9: same(run, "need " + n + " " + a + " " + b, x.need(n, a, b), y.needed(n, a, b)); break;
            case 10: same(run, "runs " + part, x.runs(part), y.ran(part)); break;
            case 11: same(run, "made " + part, x.made(part), y.made(part)); break;
            case 12: same(run, "worth " + args + " " + n, x.worth(l, h, c, n), y.worth(l, h, c, n)); break;
            case 13: same(run, "fair " + n + " " + part, x.fair(n, part), y.fair(n, part)); break;
            case 14: same(run, "learns " + h + " " + d + " " + e + " " + part, x.learns(h, d, e, part), y.learns(h, d, e, part)); break;
            case 15: case 16: same(run, "act " + l + " " + what + " " + z, x.act(l, what, z), y.act(l, what, z)); break;
            case 17: case 18: same(run, "trace " + d, x.trace(d), y.trace(d)); break;
            case 19: same(run, "as " + l + " " + k, x.as(l, k), y.as(l, k)); break;
            default: same(run, "count " + k, x.count(k), y.count(k));
        }
    }

    private static void run(int run) {
        luck = new Random(run);
        HeadsByHair x = new HeadsByHair();
        Told y = new Told();
        int first = asked;
        for (int k = luck.nextInt(4); k > 0; k--) {
            int e = some(0, 9), b = some(0, 9), r = some(1, 30), w = some(0, 9);
            same(run, "coin", x.coin(e, b), y.coin(e, b));
            same(run, "hand", x.hand(r, w), y.hand(r, w));
            newLaw(run, x, y);
        }
        // An object is used for at most 512 calls.
        while (asked - first < 370) {
            if (luck.nextInt(4) == 0) make(run, x, y);
            else ask(run, x, y);
        }
    }

    /** Texts of which many are spoiled: LAWS and FAULTS alone. */
    private static void faults(int seed) {
        luck = new Random(seed);
        HeadsByHair x = new HeadsByHair();
        Told y = new Told();
        x.image();
        y.image();
        for (int k = 0; k < 20; k++) {
            newLaw(seed, x, y);
            x.undo();
            y.undo();
        }
    }

    public static void main(String[] args) {
        int runs = args.length > 0 ? Integer.parseInt(args[0]) : 60;
        for (int run = 1; run <= runs && wrong == 0; run++) run(run);
        for (int seed = 1; seed <= 2 * runs && wrong == 0; seed++) faults(-seed);
        System.out.println("OracleTest: " + asked + " answers, " + wrong + " not as due");
        if (wrong != 0) System.exit(1);
    }
}
