import java.util.Arrays;

/**
 * Coins, hands, and laws of how a coin turns on its way: which side is up, how likely it comes as it
 * lay, and what counts, rows, bets and acts tell. The words in capitals are those of the document.
 */
public final class HeadsByHair {
    public static final int NONE = -1, BAD = -2, STATE = -3, FULL = -4;
    /** There is no such number. */
    public static final long NO = Long.MIN_VALUE;

    private static final int NOTHING = -5, OTHER_KIND = -6;
    private static final int WORTH_NONE = -1001, WORTH_BAD = -1002;
    private static final int HEADS = 1;

    private static final int MOST_COINS = 6, MOST_HANDS = 6, MOST_LAWS = 8;
    private static final int MOST_BYTES = 120, MOST_CLAUSES = 8, MOST_OPEN = 5;
    private static final int MOST_SIDES = 16, MOST_TRACE = 20, KINDS = 7;
    private static final int MOST_DIGIT = 9, MOST_COUNT = 999;
    private static final int MOST_HAND_RISE = 30, MOST_RISE = 40;
    private static final int MOST_FAR = 30, MOST_NEED = 8;
    private static final int MOST_LEAN = 49, HALF_TURN = 50, FULL_TURN = 100;

    // A step of a LAW is its sort times 100 and a number (0 .. 99); the sorts below 15 are TESTS.
    private static final String LETTERS = "rebht", SIGNS = "<=>";
    private static final int SORT = 100;
    private static final int NOT = 15, AND = 16, OR = 17, TURN = 18, LEAN = 19, SKIP = 20;

    private final Stock now = new Stock();
    private final Stock kept = new Stock();
    private boolean isKept;
    private final Reader reader = new Reader();
    private final Flight flight = new Flight();
    private final Trace latest = new Trace();

    public HeadsByHair() {
    }

    // ---- coins, hands

    public int coin(int edge, int bend) {
        if (!isWithin(edge, 0, MOST_DIGIT) || !isWithin(bend, 0, MOST_DIGIT)) return BAD;
        if (now.coins >= MOST_COINS) return FULL;
        now.edge[now.coins] = edge;
        now.bend[now.coins] = bend;
        return now.coins++;
    }

    public int hand(int rise, int wandering) {
        if (!isWithin(rise, 1, MOST_HAND_RISE) || !isWithin(wandering, 0, MOST_DIGIT)) return BAD;
        if (now.hands >= MOST_HANDS) return FULL;
        now.rise[now.hands] = rise;
        now.wandering[now.hands] = wandering;
        return now.hands++;
    }

    public int of(int hand, int what) {
        if (!isHand(hand)) return NONE;
        switch (what) {
            case 0: return now.rise[hand];
            case 1: return now.wandering[hand];
            case 2: return leaning(hand);
            case 3: return now.allThrown(hand);
            case 4: return now.allAlike(hand);
            default: return NONE;
        }
    }

    public int counts(int hand, int coin, int n, int s) {
        if (!isHand(hand) || !isCoin(coin)) return NONE;
        if (!isWithin(n, 0, MOST_COUNT) || !isWithin(s, 0, n)) return BAD;
        int at = hand * MOST_COINS + coin;
        int before = now.thrown[at];
        now.thrown[at] = n;
        now.alike[at] = s;
        return before;
    }

    // ---- laws

    public int feed(long w, int n) {
        if (!isWithin(n, 1, 8)) return BAD;
        if (now.bytes + n > MOST_BYTES) return FULL;
        for (int k = n - 1; k >= 0; k--) {
            now.tape[now.bytes] = (int) (w >>> (8 * k)) & 255;
            now.bytes++;
        }
        return now.bytes;
    }

    public int law(int kind, int v) {
        if (!isWithin(kind, 0, KINDS - 1)) return NONE;
        if (!isWithin(v, 0, MOST_DIGIT)) return BAD;
        if (now.laws >= MOST_LAWS) return FULL;
        boolean isLaw = reader.reads(now.tape, now.bytes);
        now.bytes = 0;
        if (!isLaw) return -10 - reader.place;
        now.law[now.laws] = newLaw(kind, now.laws, v);
        return now.laws++;
    }

    public int told(int law, int what) {
        Throw by = lawOf(law);
        if (by == null) return NONE;
        switch (what) {
            case 0: return by.kind;
            case 1: return by.v;
            case 2: return by.caught;
            default: return NONE;
        }
    }

    // ---- THROWS

    public int toss(int law, int hand, int coin, int rise, int what) {
        Throw by = lawOf(law);
        if (by == null || !isHand(hand) || !isCoin(coin) || !isWithin(what, 0, 3)) return NONE;
        if (!isWithin(rise, 1, MOST_RISE)) return BAD;
        begin(by, hand, coin, rise);
        int asItLay = 0;
        for (int tick = 1; tick <= flight.last; tick++) {
            flight.goOn(by.steps);
            if (by.sideUp(flight, HEADS) == HEADS) asItLay++;
        }
        switch (what) {
            case 0: return by.sideUp(flight, HEADS);
            case 1: return flight.angle;
            case 2: return asItLay;
            default: return flight.last;
        }
    }

    public int up(int law, int hand, int coin, int rise, int tick) {
        Throw by = lawOf(law);
        if (by == null || !isHand(hand) || !isCoin(coin)) return NONE;
        if (!isWithin(rise, 1, MOST_RISE) || !isWithin(tick, 1, rise + by.caught)) return BAD;
        begin(by, hand, coin, rise);
        return sideAt(by, tick, HEADS);
    }

    public long same(int law, int hand, int coin, int part) {
        Throw by = lawOf(law);
        if (by == null || !isHand(hand) || !isCoin(coin) || !isPart(part)) return NO;
        return inLowest(timesHeads(by, hand, coin, HEADS), now.rises(hand), part);
    }

    public long heads(int law, int hand, int coin, int n, int part) {
        Throw by = lawOf(law);
        if (by == null || !isHand(hand) || !isCoin(coin) || !isPart(part) || !isPercent(n)) return NO;
        long fromHeads = n * timesHeads(by, hand, coin, HEADS);
        long fromTails = (100 - n) * timesHeads(by, hand, coin, 1 - HEADS);
        return inLowest(fromHeads + fromTails, 100L * now.rises(hand), part);
    }

    public int steady(int law, int hand, int coin, int what) {
        Throw by = lawOf(law);
        if (by == null || !isHand(hand) || !isCoin(coin) || !isWithin(what, 0, 1)) return NONE;
        int asItLay = 0, edgeOf = NOTHING, before = 0;
        for (int rise = 1; rise <= MOST_RISE; rise++) {
            int side = comes(by, hand, coin, rise, HEADS);
            if (side == HEADS) asItLay++;
            if (rise > 1 && side != before && edgeOf == NOTHING) edgeOf = rise;
            before = side;
        }
        return what == 0 ? asItLay : edgeOf;
    }

    // ---- counts

    public int differ() {
        int with = 0, least = 0, greatest = 0;
        for (int hand = 0; hand < now.hands; hand++) {
            int leans = leaning(hand);
            if (leans == NOTHING) continue;
            least = with == 0 ? leans : Math.min(least, leans);
            greatest = with == 0 ? leans : Math.max(greatest, leans);
            with++;
        }
        return with < 2 ? NOTHING : greatest - least;
    }

    public long far(int hand, int what, int part) {
        if (!isHand(hand) || !isWithin(what, 0, 1) || !isPart(part)) return NO;
        int n = now.allThrown(hand), s = now.allAlike(hand);
        if (n > MOST_FAR) return NO;
        long ways = what == 0 ? choices(n, s) : choicesBetween(n, s, n);
        return inLowest(ways, 1L << n, part);
    }

    public int need(int p, int a, int b) {
        if (!isPercent(p) || !isPercent(a) || !isPercent(b)) return BAD;
        for (int n = 1; n <= MOST_NEED; n++) {
            long all = power(100, n);
            for (int k = 0; k <= n; k++) {
                boolean isShown = 100 * atLeast(n, k, p) >= a * all;
                if (isShown && 100 * atLeast(n, k, 50) <= b * all) return 10 * n + k;
            }
        }
        return NOTHING;
    }

    public int row(int side) {
        if (!isWithin(side, -1, HEADS)) return BAD;
        if (side == -1) {
            now.sides = 0;
            return 0;
        }
        if (now.sides >= MOST_SIDES) return FULL;
        now.side[now.sides] = side;
        now.sides++;
        return now.sides;
    }

    public int runs(int what) {
        switch (what) {
            case 0: return stretches();
            case 1: return longestStretch();
            default: return NONE;
        }
    }

    public int made(int part) {
        if (!isPart(part)) return NONE;
        if (now.sides == 0) return 1;
        // Of n sides each but the first begins a stretch or does not: n - 1 even choices.
        int changes = now.sides - 1;
        long ways = choicesBetween(changes, 0, stretches() - 1);
        return (int) inLowest(ways, 1L << changes, part);
    }

    // ---- bets, fairness, learning

    public int worth(int law, int hand, int coin, int n) {
        Throw by = lawOf(law);
        if (by == null || !isHand(hand) || !isCoin(coin)) return WORTH_NONE;
        if (!isPercent(n)) return WORTH_BAD;
        int rises = now.rises(hand);
        int asItLay = timesHeads(by, hand, coin, HEADS);
        int lead = Math.abs(2 * asItLay - rises);
        return 10 * lead * (100 - 2 * n) / rises;
    }

    public int fair(int p, int part) {
        if (!isPart(part)) return NONE;
        if (!isWithin(p, 1, 99)) return BAD;
        return (int) inLowest(10000, p * (100 - p), part);
    }

    public int learns(int hand, int n, int m, int what) {
        if (!isHand(hand) || !isWithin(what, 0, 1)) return NONE;
        if (!isWithin(n, 0, MOST_DIGIT) || !isWithin(m, 0, MOST_DIGIT)) return BAD;
        int hundreds = now.allThrown(hand) / 100;
        if (what == 0) return Math.min(MOST_HAND_RISE, now.rise[hand] + hundreds * n);
        return Math.max(0, now.wandering[hand] - hundreds * m);
    }

    // ---- acts, the image

    public int act(int law, int act, int x) {
        latest.ran = 0;
        Throw by = lawOf(law);
        if (by == null) return 0;
        switch (act) {
            case 0: return by.turns(x, latest);
            case 1: return by.lands(x, latest);
            case 2: return by.leans(x, latest);
            default: return 0;
        }
    }

    public int trace(int i) {
        if (!isWithin(i, 0, Math.min(latest.ran, MOST_TRACE) - 1)) return NONE;
        return latest.body[i];
    }

    public int as(int law, int k) {
        Throw by = lawOf(law);
        if (by == null || !isWithin(k, 0, KINDS - 1)) return NONE;
        return isOfKind(by, k) ? by.v : OTHER_KIND;
    }

    public int image() {
        kept.becomes(now);
        isKept = true;
        return now.hands;
    }

    public int undo() {
        if (!isKept) return STATE;
        now.becomes(kept);
        return now.hands;
    }

    public int count(int what) {
        switch (what) {
            case 0: return now.coins;
            case 1: return now.hands;
            case 2: return now.laws;
            case 3: return now.sides;
            case 4: return now.bytes;
            case 5: return latest.ran;
            default: return NONE;
        }
    }

    // ---- what is there

    private static boolean isWithin(int x, int least, int most) {
        return x >= least && x <= most;
    }

    private static boolean isPercent(int x) {
        return isWithin(x, 0, 100);
    }

    private static boolean isPart(int part) {
        return isWithin(part, 0, 1);
    }

    private boolean isCoin(int coin) {
        return isWithin(coin, 0, now.coins - 1);
    }

    private boolean isHand(int hand) {
        return isWithin(hand, 0, now.hands - 1);
    }

    /** The LAW of that number, or null if there is none. */
    private Throw lawOf(int number) {
        return isWithin(number, 0, now.laws - 1) ? now.law[number] : null;
    }

    /** A LAW of the text that the reader has just read. */
    private Throw newLaw(int kind, int number, int v) {
        switch (kind) {
            case 1: return new Turning(kind, number, v, reader);
            case 2: return new Wobbling(kind, number, v, reader);
            case 3: return new Caught(kind, number, v, reader);
            case 4: return new Fallen(kind, number, v, reader);
            case 5: return new Spun(kind, number, v, reader);
            case 6: return new Seeming(kind, number, v, reader);
            default: return new Throw(kind, number, v, reader);
        }
    }

    private static boolean isOfKind(Throw by, int kind) {
        switch (kind) {
            case 1: return by instanceof Turning;
            case 2: return by instanceof Wobbling;
            case 3: return by instanceof Caught;
            case 4: return by instanceof Fallen;
            case 5: return by instanceof Spun;
            case 6: return by instanceof Seeming;
            default: return true;
        }
    }

    // ---- one THROW, and all that a HAND may make

    private void begin(Throw by, int hand, int coin, int rise) {
        flight.hand = hand;
        flight.edge = now.edge[coin];
        flight.bend = now.bend[coin];
        flight.rise = rise;
        flight.last = rise + by.caught;
        flight.tick = 0;
        flight.angle = 0;
        flight.lean = 0;
    }

    /** The side up at a TICK of the THROW that has just begun. */
    private int sideAt(Throw by, int tick, int lay) {
        for (int k = 0; k < tick; k++) flight.goOn(by.steps);
        return by.sideUp(flight, lay);
    }

    private int comes(Throw by, int hand, int coin, int rise, int lay) {
        begin(by, hand, coin, rise);
        return sideAt(by, flight.last, lay);
    }

    /** With how many of the RISES that the HAND may make it COMES heads. */
    private int timesHeads(Throw by, int hand, int coin, int lay) {
        int rise = now.rise[hand], wandering = now.wandering[hand], times = 0;
        for (int off = -wandering; off <= wandering; off++) {
            if (comes(by, hand, coin, Math.max(1, rise + off), lay) == HEADS) times++;
        }
        return times;
    }

    // ---- counts and rows

    private int leaning(int hand) {
        int thrown = now.allThrown(hand);
        return thrown == 0 ? NOTHING : 1000 * now.allAlike(hand) / thrown;
    }

    private int stretches() {
        int stretches = now.sides == 0 ? 0 : 1;
        for (int k = 1; k < now.sides; k++) {
            if (now.side[k] != now.side[k - 1]) stretches++;
        }
        return stretches;
    }

    private int longestStretch() {
        int longest = 0, length = 0;
        for (int k = 0; k < now.sides; k++) {
            length = k > 0 && now.side[k] == now.side[k - 1] ? length + 1 : 1;
            longest = Math.max(longest, length);
        }
        return longest;
    }

    // ---- numbers

    /** In how many ways k of n can be chosen. */
    private static long choices(int n, int k) {
        long ways = 1;
        for (int j = 1; j <= k; j++) ways = ways * (n - j + 1) / j;
        return ways;
    }

    private static long choicesBetween(int n, int least, int most) {
        long ways = 0;
        for (int k = least; k <= most; k++) ways += choices(n, k);
        return ways;
    }

    private static long power(long base, int n) {
        long power = 1;
        for (int k = 0; k < n; k++) power *= base;
        return power;
    }

    /** Of 100 to the n: how often what comes p of 100 times comes k times or more in n. */
    private static long atLeast(int n, int k, int p) {
        long odds = 0;
        for (int j = k; j <= n; j++) odds += choices(n, j) * power(p, j) * power(100 - p, n - j);
        return odds;
    }

    private static long inLowest(long above, long below, int part) {
        long common = Math.max(1, commonDivisor(above, below));
        return (part == 0 ? above : below) / common;
    }

    private static long commonDivisor(long a, long b) {
        // Euclid's steps with two longs are fewer than a hundred.
        for (int k = 0; k < 100 && b != 0; k++) {
            long rest = a % b;
            a = b;
            b = rest;
        }
        return a;
    }

    /** All that THE IMAGE keeps. */
    private static final class Stock {
        private int coins, hands, laws, bytes, sides;
        private final int[] edge = new int[MOST_COINS], bend = new int[MOST_COINS];
        private final int[] rise = new int[MOST_HANDS], wandering = new int[MOST_HANDS];
        // COUNTS, HAND by HAND, with a place for each COIN: all THROWS, and those that were the same.
        private final int[] thrown = new int[MOST_HANDS * MOST_COINS];
        private final int[] alike = new int[MOST_HANDS * MOST_COINS];
        private final Throw[] law = new Throw[MOST_LAWS];
        private final int[] tape = new int[MOST_BYTES];
        private final int[] side = new int[MOST_SIDES];

        private int allThrown(int hand) {
            return sumOf(thrown, hand);
        }

        private int allAlike(int hand) {
            return sumOf(alike, hand);
        }

        private int sumOf(int[] numbers, int hand) {
            int sum = 0;
            for (int coin = 0; coin < coins; coin++) sum += numbers[hand * MOST_COINS + coin];
            return sum;
        }

        /** How many RISES a HAND may make, equal ones counted each; 1 at least, as others divide by it. */
        private int rises(int hand) {
            return Math.max(1, 2 * wandering[hand] + 1);
        }

        private void becomes(Stock other) {
            coins = other.coins;
            hands = other.hands;
            laws = other.laws;
            bytes = other.bytes;
            sides = other.sides;
            copy(other.edge, edge);
            copy(other.bend, bend);
            copy(other.rise, rise);
            copy(other.wandering, wandering);
            copy(other.thrown, thrown);
            copy(other.alike, alike);
            copy(other.tape, tape);
            copy(other.side, side);
            // A LAW never changes, so both may hold the same one.
            for (int k = 0; k < MOST_LAWS; k++) law[k] = other.law[k];
        }

        private static void copy(int[] from, int[] to) {
            System.arraycopy(from, 0, to, 0, Math.min(from.length, to.length));
        }
    }

    /** The bodies that ran in the latest act(), as they began. */
    private static final class Trace {
        private final int[] body = new int[MOST_TRACE];
        private int ran;

        private void began(int number) {
            if (ran < MOST_TRACE) body[ran] = number;
            ran++;
        }
    }

    /**
     * Reads bytes as a LAW. A byte is passed only if a LAW can go on with it, so where the reading
     * stops is the FAULT. A LAW becomes a row of steps: of each clause its TESTS, each !, & and |
     * behind what it joins, and then what the clause does.
     */
    private static final class Reader {
        private int[] text = new int[0];
        private final int[] steps = new int[MOST_BYTES];
        private int size, place, stepCount, number, caught;

        private boolean reads(int[] tape, int bytes) {
            text = tape;
            size = Math.min(bytes, tape.length);
            place = 0;
            stepCount = 0;
            caught = 0;
            for (int k = 0; k < MOST_CLAUSES; k++) {
                if (k > 0 && !passes(';')) return false;
                if (!readsClause()) return false;
                if (place >= size) return true;
            }
            return false;
        }

        /** No two words begin alike, so the first letter tells which rest must follow. */
        private boolean readsClause() {
            if (passes('s')) return passesAll("kip ") && readsAny(0) && adds(SKIP, 0);
            if (passes('c')) {
                if (!passesAll("atch ") || !readsNumber()) return false;
                caught = number;
                return true;
            }
            int sort = passes('t') ? TURN : LEAN;
            if (!passesAll(sort == TURN ? "urn " : "lean ") || !readsNumber() || !passes(' ')) return false;
            int n = number;
            return readsAny(0) && adds(sort, n);
        }

        /** E, with so many of ! and ( open about it. */
        private boolean readsAny(int open) {
            boolean isGood = readsAll(open);
            for (int k = 0; k < size && isGood && passes('|'); k++) {
                isGood = readsAll(open) && adds(OR, 0);
            }
            return isGood;
        }

        /** T, likewise. */
        private boolean readsAll(int open) {
            boolean isGood = readsOne(open);
            for (int k = 0; k < size && isGood && passes('&'); k++) {
                isGood = readsOne(open) && adds(AND, 0);
            }
            return isGood;
        }

        /** F, likewise; where no more may be open, only a TEST can go on. */
        private boolean readsOne(int open) {
            if (open < MOST_OPEN && passes('!')) return readsOne(open + 1) && adds(NOT, 0);
            if (open < MOST_OPEN && passes('(')) return readsAny(open + 1) && passes(')');
            int letter = LETTERS.indexOf((char) nextByte());
            if (letter < 0) return false;
            place++;
            int sign = SIGNS.indexOf((char) nextByte());
            if (sign < 0) return false;
            place++;
            return readsNumber() && adds(letter * 3 + sign, number);
        }

        private boolean readsNumber() {
            int first = nextByte() - '0';
            if (!isWithin(first, 0, 9)) return false;
            place++;
            number = first;
            int second = nextByte() - '0';
            if (first > 0 && isWithin(second, 0, 9)) {
                place++;
                number = 10 * first + second;
            }
            return true;
        }

        /** The byte at the place; 0, which no LAW has, at the end. */
        private int nextByte() {
            return place < size ? text[place] : 0;
        }

        private boolean passes(char due) {
            if (nextByte() != due) return false;
            place++;
            return true;
        }

        private boolean passesAll(String due) {
            for (int k = 0; k < due.length(); k++) {
                if (!passes(due.charAt(k))) return false;
            }
            return true;
        }

        /** Each step stands for a byte of its own, so there is always room for it. */
        private boolean adds(int sort, int n) {
            if (stepCount >= MOST_BYTES) return false;
            steps[stepCount] = sort * SORT + n;
            stepCount++;
            return true;
        }
    }

    /** A THROW under way. */
    private static final class Flight {
        private int hand, edge, bend, rise, last;
        private int tick, angle, lean;

        private boolean isAtEnd() {
            return tick == last;
        }

        /**
         * The next TICK. What the TESTS answer lies in the bits of one int, the latest lowest: with
         * 5 open at most no more than 13 answers wait at once.
         */
        private void goOn(int[] steps) {
            tick++;
            int turn = 0, leans = 0, skips = 0, answers = 0;
            for (int step : steps) {
                int sort = step / SORT, n = step % SORT, top = answers & 1;
                switch (sort) {
                    case NOT: answers ^= 1; break;
                    case AND: answers = (answers >> 1) & (top | ~1); break;
                    case OR: answers = (answers >> 1) | top; break;
                    case TURN: turn += n * top; answers >>= 1; break;
                    case LEAN: leans += n * top; answers >>= 1; break;
                    case SKIP: skips += top; answers >>= 1; break;
                    default: answers = (answers << 1) | (isTrue(sort, n) ? 1 : 0);
                }
            }
            if (skips == 0) angle = (angle + turn) % FULL_TURN;
            lean = Math.min(leans, MOST_LEAN);
        }

        private boolean isTrue(int sort, int n) {
            int x = valueOf(sort / 3);
            switch (sort % 3) {
                case 0: return x < n;
                case 1: return x == n;
                default: return x > n;
            }
        }

        private int valueOf(int letter) {
            switch (letter) {
                case 0: return rise;
                case 1: return edge;
                case 2: return bend;
                case 3: return hand;
                default: return tick;
            }
        }
    }

    /** A LAW, of the KIND THROW; the KINDS under it are the classes under this one. */
    private static class Throw {
        final int kind, number, v, caught;
        final int[] steps;

        Throw(int kind, int number, int v, Reader text) {
            this.kind = kind;
            this.number = number;
            this.v = v;
            this.caught = text.caught;
            this.steps = Arrays.copyOf(text.steps, text.stepCount);
        }

        int sideUp(Flight f, int lay) {
            return lay;
        }

        int turns(int x, Trace t) {
            t.began(1);
            return x + number;
        }

        int lands(int x, Trace t) {
            t.began(2);
            return turns(x, t) - v;
        }

        int leans(int x, Trace t) {
            t.began(3);
            return lands(x, t) * 2;
        }

        /** UP as told, which KINDS on both branches share. */
        static int sideByAngle(int angle, int turnsOverAt, int lay) {
            return angle < turnsOverAt ? lay : 1 - lay;
        }
    }

    private static class Turning extends Throw {
        Turning(int kind, int number, int v, Reader text) {
            super(kind, number, v, text);
        }

        @Override
        int sideUp(Flight f, int lay) {
            return sideByAngle(f.angle, HALF_TURN, lay);
        }

        @Override
        int turns(int x, Trace t) {
            t.began(11);
            return super.turns(x * 3, t);
        }
    }

    private static class Wobbling extends Turning {
        Wobbling(int kind, int number, int v, Reader text) {
            super(kind, number, v, text);
        }

        @Override
        int sideUp(Flight f, int lay) {
            return sideByAngle(f.angle, HALF_TURN + f.lean, lay);
        }

        @Override
        int leans(int x, Trace t) {
            t.began(41);
            return super.leans(x - 1, t) + turns(2, t);
        }
    }

    private static final class Seeming extends Wobbling {
        Seeming(int kind, int number, int v, Reader text) {
            super(kind, number, v, text);
        }

        @Override
        int sideUp(Flight f, int lay) {
            return f.lean >= v ? lay : super.sideUp(f, lay);
        }

        @Override
        int turns(int x, Trace t) {
            t.began(51);
            return super.turns(x, t) ^ number;
        }
    }

    private static class Caught extends Throw {
        Caught(int kind, int number, int v, Reader text) {
            super(kind, number, v, text);
        }

        @Override
        int sideUp(Flight f, int lay) {
            int side = sideByAngle(f.angle, HALF_TURN, lay);
            return f.isAtEnd() && v % 2 == 1 ? 1 - side : side;
        }

        @Override
        int lands(int x, Trace t) {
            t.began(21);
            return -super.lands(x, t);
        }
    }

    private static final class Fallen extends Caught {
        Fallen(int kind, int number, int v, Reader text) {
            super(kind, number, v, text);
        }

        @Override
        int sideUp(Flight f, int lay) {
            int side = super.sideUp(f, lay);
            if (!f.isAtEnd() || v == 0) return side;
            return f.bend / v % 2 == 1 ? 1 - side : side;
        }

        @Override
        int lands(int x, Trace t) {
            t.began(61);
            return super.lands(x, t) + v;
        }
    }

    private static final class Spun extends Throw {
        Spun(int kind, int number, int v, Reader text) {
            super(kind, number, v, text);
        }

        @Override
        int sideUp(Flight f, int lay) {
            return f.edge >= v ? 1 - HEADS : HEADS;
        }

        @Override
        int leans(int x, Trace t) {
            t.began(31);
            return super.leans(x, t) ^ 7;
        }
    }
}
