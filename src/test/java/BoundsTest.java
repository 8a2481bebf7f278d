/**
 * Each sentence of the document that names a bound, by itself: the last that is allowed, the first that
 * is not on either side, and what is told for the empty, the full, the cut and the wrapped.
 */
public final class BoundsTest {
    private static final int NONE = Check.NONE, BAD = Check.BAD, STATE = Check.STATE, FULL = Check.FULL;
    private static final int MIN = Check.MIN, MAX = Check.MAX;
    private static final long NO = Check.NO;

    // ---- 1 COINS, HANDS

    private static void coins() {
        Check.sentence("COINS are numbered from 0 on, 6 at most");
        HeadsByHair x = new HeadsByHair();
        x.hand(1, 0);
        Check.due("counts with COIN 0, none there", x.counts(0, 0, 1, 1), NONE);
        for (int k = 0; k < 6; k++) {
            Check.due("coin " + k, x.coin(k, 9 - k), k);
            Check.due("counts with COIN " + k, x.counts(0, k, 1, 1), 0);
            Check.due("counts with COIN " + (k + 1), x.counts(0, k + 1, 1, 1), NONE);
            if (k == 4) x.image();
        }
        Check.due("the 7th", x.coin(0, 0), FULL);
        Check.due("count(0)", x.count(0), 6);
        x.undo();
        Check.due("the 6th anew", x.coin(0, 0), 5);
        Check.due("the 7th anew", x.coin(0, 0), FULL);
        Check.sentence("an EDGE (0 .. 9), a BEND (0 .. 9)");
        for (int n = -1; n <= 10; n++) {
            boolean isOne = n >= 0 && n <= 9;
            HeadsByHair y = new HeadsByHair();
            Check.due("EDGE " + n, y.coin(n, 3), isOne ? 0 : BAD);
            Check.due("BEND " + n, y.coin(4, n), isOne ? 1 : BAD);
            Check.due("count(0)", y.count(0), isOne ? 2 : 0);
            if (isOne) coinsAre(y, n);
        }
    }

    private static void coinsAre(HeadsByHair x, int n) {
        x.hand(1, 0);
        Check.law(x, Check.EDGE_LAW, 1, 0);
        Check.law(x, Check.BEND_LAW, 1, 0);
        Check.due("EDGE of COIN 0", x.toss(0, 0, 0, 9, 1), n);
        Check.due("BEND of COIN 0", x.toss(1, 0, 0, 9, 1), 3);
        Check.due("EDGE of COIN 1", x.toss(0, 0, 1, 9, 1), 4);
        Check.due("BEND of COIN 1", x.toss(1, 0, 1, 9, 1), n);
    }

    private static void hands() {
        Check.sentence("HANDS are numbered from 0 on, 6 at most");
        HeadsByHair x = new HeadsByHair();
        Check.due("of HAND 0, none there", x.of(0, 0), NONE);
        for (int k = 0; k < 6; k++) {
            Check.due("hand " + k, x.hand(k + 10, k), k);
            Check.due("RISE of HAND " + k, x.of(k, 0), k + 10);
            Check.due("WANDERING of HAND " + k, x.of(k, 1), k);
            Check.due("RISE of HAND " + (k + 1), x.of(k + 1, 0), NONE);
        }
        Check.due("the 7th", x.hand(1, 0), FULL);
        Check.due("count(1)", x.count(1), 6);
        Check.due("RISE of HAND 5", x.of(5, 0), 15);
        Check.due("RISE of HAND 0", x.of(0, 0), 10);
        Check.sentence("a RISE (1 .. 30 ticks)");
        HeadsByHair y = new HeadsByHair();
        Check.due("RISE 0", y.hand(0, 5), BAD);
        Check.due("RISE 1", y.hand(1, 5), 0);
        Check.due("RISE 30", y.hand(30, 5), 1);
        Check.due("RISE 31", y.hand(31, 5), BAD);
        Check.due("of(0, 0)", y.of(0, 0), 1);
        Check.due("of(1, 0)", y.of(1, 0), 30);
        Check.sentence("WANDERING (0 .. 9)");
        Check.due("WANDERING -1", y.hand(5, -1), BAD);
        Check.due("WANDERING 0", y.hand(5, 0), 2);
        Check.due("WANDERING 9", y.hand(5, 9), 3);
        Check.due("WANDERING 10", y.hand(5, 10), BAD);
        Check.due("of(2, 1)", y.of(2, 1), 0);
        Check.due("of(3, 1)", y.of(3, 1), 9);
        Check.due("count(1)", y.count(1), 4);
    }

    /** Of all RISES that the HAND may make so many are this one. */
    private static void rises(int rise, int wandering, int one, int times) {
        HeadsByHair x = Check.turning("turn 50 t=1&r=" + one, rise, wandering);
        int all = 2 * wandering + 1, other = all - times, common = all;
        while (all % common != 0 || other % common != 0) common--;
        String call = "RISE " + one + " of " + rise + " and " + wandering;
        Check.due(call + ", above", x.same(0, 0, 0, 0), other / common);
        Check.due(call + ", below", x.same(0, 0, 0, 1), all / common);
    }

    private static void wandering() {
        Check.sentence("one of RISE less WANDERING to RISE and WANDERING, each as likely");
        rises(7, 0, 6, 0);
        rises(7, 0, 7, 1);
        rises(7, 0, 8, 0);
        rises(15, 4, 10, 0);
        rises(15, 4, 11, 1);
        rises(15, 4, 19, 1);
        rises(15, 4, 20, 0);
        rises(30, 9, 20, 0);
        rises(30, 9, 21, 1);
        rises(30, 9, 39, 1);
        rises(30, 9, 40, 0);
        Check.sentence("(1 at least: lesser ones count as 1)");
        rises(1, 0, 1, 1);
        rises(1, 0, 0, 0);
        rises(1, 1, 1, 2);
        rises(1, 1, 2, 1);
        rises(1, 9, 1, 10);
        rises(1, 9, 0, 0);
        rises(1, 9, 10, 1);
        rises(1, 9, 11, 0);
        rises(9, 9, 1, 2);
        rises(10, 9, 1, 1);
        rises(11, 9, 1, 0);
        rises(5, 5, 1, 2);
        rises(5, 4, 1, 1);
    }

    // ---- THE TAPE

    private static void tape() {
        Check.sentence("THE TAPE (bytes, 120 at most)");
        for (int n = 1; n <= 8; n++) {
            HeadsByHair x = new HeadsByHair();
            int size = 0;
            while (size + n <= 120) {
                size += n;
                Check.due("feed of " + n, x.feed(0, n), size);
            }
            Check.due("feed of " + n + " behind " + size, x.feed(0, n), FULL);
            Check.due("count(4)", x.count(4), size);
            for (int k = 120 - size + 1; k <= 8; k++) Check.due("feed of " + k + " behind " + size, x.feed(0, k), FULL);
            if (size < 120) Check.due("feed of the rest", x.feed(0, 120 - size), 120);
            Check.due("count(4)", x.count(4), 120);
            Check.due("feed of 1 behind 120", x.feed(0, 1), FULL);
        }
        HeadsByHair x = Check.withCoinAndHand(0, 0, 1, 0);
        Check.due("feed of a LAW of 120 bytes", Check.feed(x, Check.LONG_LAW), 120);
        Check.due("feed of 1", x.feed('1', 1), FULL);
        Check.due("law of 120 bytes", x.law(1, 0), 0);
        // It turns at 1 and at each TICK above 2.
        Check.due("ANGLE behind 5 TICKS", x.toss(0, 0, 0, 5, 1), 40);
        Check.due("count(4), empty then", x.count(4), 0);
        for (int k = 1; k <= 15; k++) Check.due("feed once more", x.feed(0, 8), 8 * k);
        Check.due("feed once too often", x.feed(0, 1), FULL);
    }

    private static void feeds() {
        Check.sentence("The n lowest bytes of w, the highest first, come behind THE TAPE's");
        String text = "catch 12";
        long whole = 0;
        for (char c : text.toCharArray()) whole = whole << 8 | c;
        for (int n = 1; n <= 8; n++) {
            HeadsByHair x = new HeadsByHair();
            // The bytes of the text but the n last ones come first, those one by one.
            for (int k = 0; k < 8 - n; k++) x.feed(text.charAt(k), 1);
            Check.due("feed of the last " + n, x.feed(whole, n), 8);
            Check.due("law", x.law(0, 0), 0);
            Check.due("CATCH", x.told(0, 2), 12);
        }
        for (int n = 1; n <= 7; n++) {
            HeadsByHair x = new HeadsByHair();
            // Bytes of -1 stand above those that are fed.
            for (int k = 0; k < 8 - n; k++) x.feed(-256L | text.charAt(k), 1);
            Check.due("feed of the last " + n + ", others above", x.feed(whole | -1L << 8 * n, n), 8);
            Check.due("law", x.law(0, 0), 0);
        }
        Check.sentence("feed: BAD: n not 1 .. 8");
        int[] bad = {0, 9, -1, 16, 120, MIN, MAX};
        for (int n : bad) Check.due("feed of " + n, new HeadsByHair().feed(0x63, n), BAD);
        Check.due("feed of 1", new HeadsByHair().feed(0, 1), 1);
        Check.due("feed of 8", new HeadsByHair().feed(0, 8), 8);
    }

    // ---- LAWS

    private static void laws() {
        Check.sentence("LAWS are numbered from 0 on, 8 at most");
        HeadsByHair x = new HeadsByHair();
        Check.due("told of LAW 0, none there", x.told(0, 0), NONE);
        for (int k = 0; k < 8; k++) {
            Check.due("law " + k, Check.law(x, "catch " + k, k % 7, 9 - k), k);
            Check.due("CATCH of LAW " + k, x.told(k, 2), k);
            Check.due("CATCH of LAW " + (k + 1), x.told(k + 1, 2), NONE);
        }
        Check.due("the 9th", Check.law(x, "catch 1", 0, 0), FULL);
        Check.due("count(2)", x.count(2), 8);
        Check.sentence("FULL (THE TAPE stays with all three)");
        Check.due("count(4)", x.count(4), 7);
        Check.due("the 9th, again", x.law(0, 0), FULL);
        Check.due("count(4)", x.count(4), 7);
        Check.sentence("THE TAPE, which is empty then, is a LAW: its number; -10 less the FAULT");
        HeadsByHair y = new HeadsByHair();
        Check.due("law of nothing", y.law(0, 0), -10);
        Check.due("law of a fault", Check.law(y, "catch x", 0, 0), -16);
        Check.due("count(4), behind a FAULT", y.count(4), 0);
        Check.due("count(2), behind a FAULT", y.count(2), 0);
        Check.due("law, the first one", Check.law(y, "catch 1", 0, 0), 0);
        Check.due("count(4), behind a LAW", y.count(4), 0);
        Check.due("law of nothing", y.law(0, 0), -10);
        Check.due("count(2)", y.count(2), 1);
    }

    private static void kinds() {
        Check.sentence("each of a KIND of THROWS, 0 .. 6, and a number v (0 .. 9)");
        for (int kind = 0; kind < 7; kind++) {
            for (int v = 0; v < 10; v += 9) {
                HeadsByHair x = new HeadsByHair();
                Check.feed(x, "catch 5");
                Check.due("kind -1", x.law(-1, v), NONE);
                Check.due("kind 7", x.law(7, v), NONE);
                Check.due("v -1", x.law(kind, -1), BAD);
                Check.due("v 10", x.law(kind, 10), BAD);
                Check.due("count(4)", x.count(4), 7);
                Check.due("law(" + kind + ", " + v + ")", x.law(kind, v), 0);
                Check.due("told(0, 0)", x.told(0, 0), kind);
                Check.due("told(0, 1)", x.told(0, 1), v);
                Check.due("told(0, 2)", x.told(0, 2), 5);
                Check.due("told(0, 3)", x.told(0, 3), NONE);
                Check.due("told(0, -1)", x.told(0, -1), NONE);
            }
        }
    }

    private static void caught(String text, int n) {
        HeadsByHair x = Check.turning(text, 1, 0);
        Check.due("CATCH of '" + text + "'", x.told(0, 2), n);
        Check.due("TICKS of '" + text + "', rise 1", x.toss(0, 0, 0, 1, 3), 1 + n);
        Check.due("TICKS of '" + text + "', rise 40", x.toss(0, 0, 0, 40, 3), 40 + n);
        Check.due("the last TICK", x.up(0, 0, 0, 40, 40 + n), 1);
        Check.due("the one behind it", x.up(0, 0, 0, 40, 41 + n), BAD);
    }

    private static void catches() {
        Check.sentence("CATCH: the last n (0 without)");
        caught("turn 0 r>0", 0);
        caught("catch 0", 0);
        caught("catch 1", 1);
        caught("catch 9", 9);
        caught("catch 10", 10);
        caught("catch 99", 99);
        caught("catch 99;catch 0", 0);
        caught("catch 3;catch 7", 7);
        caught("catch 7;catch 3;lean 1 r<1", 3);
        caught("catch 8;catch 7;catch 6;catch 5;catch 4;catch 3;catch 2;catch 1", 1);
        HeadsByHair x = Check.turning("catch 8", 1, 0);
        Check.law(x, "turn 1 r>0", 1, 0);
        Check.due("CATCH of a LAW without, behind one with", x.told(1, 2), 0);
        Check.law(x, "catch 9;turn x", 1, 0);
        Check.law(x, "turn 1 r>0", 1, 0);
        Check.due("CATCH of a LAW without, behind a FAULT", x.told(2, 2), 0);
    }

    // ---- TESTS

    /** Whether E holds at the last TICK of a THROW. */
    private static void holds(String when, int[] coin, int hand, int rise, boolean isSo) {
        HeadsByHair x = new HeadsByHair();
        x.coin(coin[0], coin[1]);
        for (int k = 0; k <= hand; k++) x.hand(30, 0);
        Check.law(x, "turn 1 t=" + rise + "&(" + when + ")", 1, 0);
        Check.due(when + " with EDGE " + coin[0] + ", BEND " + coin[1] + ", HAND " + hand + ", RISE " + rise,
            x.toss(0, hand, 0, rise, 1), isSo ? 1 : 0);
    }

    /** The three signs with the number below, at and above what the letter stands for. */
    private static void signs(String letter, int value, int[] coin, int hand, int rise) {
        for (int n = Math.max(0, value - 1); n <= value + 1; n++) {
            holds(letter + "<" + n, coin, hand, rise, value < n);
            holds(letter + "=" + n, coin, hand, rise, value == n);
            holds(letter + ">" + n, coin, hand, rise, value > n);
        }
        holds(letter + "<99", coin, hand, rise, true);
        holds(letter + ">99", coin, hand, rise, false);
    }

    private static void tests() {
        Check.sentence("r the RISE of the throw, e EDGE, b BEND, h the number of the HAND, t the TICK (from 1 on)");
        int[] rises = {1, 2, 9, 10, 11, 39, 40};
        for (int rise : rises) {
            signs("r", rise, new int[] {5, 6}, 2, rise);
            signs("t", rise, new int[] {5, 6}, 2, rise);
        }
        for (int n = 0; n < 10; n++) {
            signs("e", n, new int[] {n, 9 - n}, 1, 3);
            signs("b", n, new int[] {9 - n, n}, 1, 3);
        }
        for (int hand = 0; hand < 6; hand++) signs("h", hand, new int[] {8, 7}, hand, 12);
        Check.sentence("the TICK (from 1 on), till RISE and CATCH, together");
        HeadsByHair x = Check.turning("turn 10 t=0|t=1;turn 1 t=43|t=44;catch 3", 1, 0);
        Check.due("ANGLE at 43", x.toss(0, 0, 0, 40, 1), 11);
        Check.due("ANGLE at 42", x.toss(0, 0, 0, 39, 1), 10);
        Check.due("all TICKS", x.toss(0, 0, 0, 40, 3), 43);
    }

    // ---- a THROW

    private static void angle(String text, int rise, int want) {
        Check.due("ANGLE of '" + text + "', rise " + rise, Check.turning(text, 1, 0).toss(0, 0, 0, rise, 1), want);
    }

    private static void angles() {
        Check.sentence("ANGLE (0 at first) grows by the n of all turn whose E holds, together, modulo 100");
        angle("catch 9", 40, 0);
        angle("turn 0 r>0", 40, 0);
        angle("turn 1 r>0", 1, 1);
        angle("turn 99 r>0", 1, 99);
        angle("turn 99 r>0", 2, 98);
        angle("turn 99 r>0;turn 1 r>0", 1, 0);
        angle("turn 99 r>0;turn 2 r>0", 1, 1);
        angle(Check.times(8, "turn 99 r>0", ";"), 1, 92);
        angle(Check.times(8, "turn 99 r>0", ";"), 40, 80);
        angle("turn 1 r>0;catch 59", 40, 99);
        angle("turn 1 r>0;catch 60", 40, 0);
        angle("turn 1 r>0;catch 61", 40, 1);
        angle("turn 99 r>0;catch 99", 40, 61);
        angle("turn 7 t=1;turn 20 t=2;turn 30 t=3", 2, 27);
        Check.sentence("(0, if E of some skip holds)");
        angle("turn 7 r>0;skip r<0", 3, 21);
        angle("turn 7 r>0;skip r>0", 3, 0);
        angle("skip t=1;turn 7 r>0;skip t=3", 3, 7);
        angle("skip t=1;turn 7 r>0;skip t=1", 3, 14);
        angle("skip t=1|t=2;turn 7 r>0;turn 5 r>0", 3, 12);
    }

    /** The side at the one TICK of a THROW with that ANGLE and LEAN, as two clauses, and at the last. */
    private static void side(int kind, int v, int angle, String leans, int want) {
        HeadsByHair x = Check.withCoinAndHand(0, 0, 1, 0);
        String text = "turn " + angle + " t=1" + leans;
        Check.law(x, text, kind, v);
        Check.due("KIND " + kind + ", v " + v + ", '" + text + "'", x.up(0, 0, 0, 1, 1), want);
        Check.due("KIND " + kind + ", v " + v + ", '" + text + "', COMES", x.toss(0, 0, 0, 1, 0), want);
        Check.due("TICKS as it LAY", x.toss(0, 0, 0, 1, 2), want);
    }

    private static void sides() {
        Check.sentence("UP at a TICK: as it LAY, if ANGLE is less than 50, else the other side");
        int[] kinds = {1, 2, 3, 4};
        for (int kind : kinds) {
            side(kind, 0, 0, "", 1);
            side(kind, 0, 49, "", 1);
            side(kind, 0, 50, "", 0);
            side(kind, 0, 99, "", 0);
            side(kind, 0, 99, ";turn 1 t=1", 1);
        }
        Check.sentence("THROW: always as it LAY");
        for (int v = 0; v < 10; v++) {
            side(0, v, 49, "", 1);
            side(0, v, 50, "", 1);
            side(0, v, 99, "", 1);
        }
        Check.sentence("TURNING: UP as told");
        side(1, 9, 50, ";lean 49 t=1", 0);
        side(1, 1, 49, "", 1);
        Check.sentence("WOBBLING: as it LAY, if ANGLE is less than 50 and LEAN, together, else the other side");
        side(2, 9, 50, ";lean 0 t=1", 0);
        side(2, 9, 50, ";lean 1 t=1", 1);
        side(2, 9, 51, ";lean 1 t=1", 0);
        side(2, 0, 73, ";lean 24 t=1", 1);
        side(2, 0, 74, ";lean 24 t=1", 0);
        side(2, 0, 50, ";lean 9 t=2", 0);
        Check.sentence("LEAN of a TICK: the n of all lean whose E holds, together (49 at most)");
        side(2, 0, 98, ";lean 48 t=1", 0);
        side(2, 0, 98, ";lean 49 t=1", 1);
        side(2, 0, 98, ";lean 50 t=1", 1);
        side(2, 0, 99, ";lean 49 t=1", 0);
        side(2, 0, 99, ";lean 50 t=1", 0);
        side(2, 0, 99, ";lean 99 t=1", 0);
        side(2, 0, 98, ";lean 24 t=1;lean 24 t=1", 0);
        side(2, 0, 98, ";lean 24 t=1;lean 25 t=1", 1);
        side(2, 0, 99, ";lean 25 t=1;lean 25 t=1", 0);
        side(2, 0, 99, ";lean 99 t=1;lean 99 t=1;lean 99 t=1", 0);
        side(2, 0, 97, ";lean 24 t=1;lean 24 t=2", 0);
        side(2, 0, 60, ";lean 11 t=1;skip t>1", 1);
    }

    private static void seeming() {
        Check.sentence("SEEMING: as it LAY, if LEAN of the TICK is v or more; else as WOBBLING");
        for (int v = 0; v < 10; v++) {
            for (int lean = 0; lean < 12; lean++) {
                String leans = ";lean " + lean + " t=1";
                side(6, v, 99, leans, lean >= v ? 1 : 0);
                side(6, v, 49 + lean, leans, 1);
                side(6, v, 50 + lean, leans, lean >= v ? 1 : 0);
            }
        }
        side(6, 9, 99, ";lean 4 t=1;lean 5 t=1", 1);
        side(6, 9, 99, ";lean 4 t=1;lean 4 t=1", 0);
        side(6, 9, 99, ";lean 99 t=1", 1);
        side(6, 9, 99, ";lean 9 t=2", 0);
    }

    /** The sides of a THROW of three TICKS whose ANGLE is 0 all the time, or 50. */
    private static String three(int kind, int v, int edge, int bend, int angle) {
        HeadsByHair x = Check.withCoinAndHand(edge, bend, 1, 0);
        Check.law(x, "turn " + angle + " t=1;catch 1", kind, v);
        return "" + x.up(0, 0, 0, 2, 1) + x.up(0, 0, 0, 2, 2) + x.up(0, 0, 0, 2, 3);
    }

    private static void caughtFallenSpun() {
        for (int v = 0; v < 10; v++) {
            Check.sentence("CAUGHT: UP as told; but at the last TICK the other one than that, if v is odd");
            Check.due("CAUGHT, v " + v, three(3, v, 9, 9, 0), v % 2 == 1 ? "110" : "111");
            Check.due("CAUGHT, v " + v + ", ANGLE 50", three(3, v, 9, 9, 50), v % 2 == 1 ? "001" : "000");
            for (int n = 0; n < 10; n++) {
                Check.sentence("FALLEN: as CAUGHT; but at the last TICK the other one than that so often as v goes"
                    + " into BEND (cut; v 0: never)");
                int overs = v % 2;
                for (int left = n; v > 0 && left >= v; left -= v) overs++;
                String told = "v " + v + " and " + n;
                Check.due("FALLEN, " + told, three(4, v, 9, n, 0), overs % 2 == 1 ? "110" : "111");
                Check.due("FALLEN, " + told + ", ANGLE 50", three(4, v, 9, n, 50), overs % 2 == 1 ? "001" : "000");
                Check.sentence("SPUN: at each TICK tails, if EDGE is v or more, else heads, whatever LAY");
                Check.due("SPUN, " + told, three(5, v, n, 9, 0), n >= v ? "000" : "111");
                Check.due("SPUN, " + told + ", ANGLE 50", three(5, v, n, 9, 50), n >= v ? "000" : "111");
                HeadsByHair x = Check.withCoinAndHand(n, 0, 5, 1);
                Check.law(x, "catch 1", 5, v);
                Check.due("SPUN, LAY tails, " + told, x.heads(0, 0, 0, 0, 0), n >= v ? 0 : 1);
            }
        }
    }

    private static void ticks() {
        Check.sentence("toss: A THROW (rise 1 .. 40)");
        HeadsByHair x = Check.turning("turn 30 r>0;catch 2", 1, 0);
        Check.due("rise 0", x.toss(0, 0, 0, 0, 3), BAD);
        Check.due("rise 1", x.toss(0, 0, 0, 1, 3), 3);
        Check.due("rise 40", x.toss(0, 0, 0, 40, 3), 42);
        Check.due("rise 41", x.toss(0, 0, 0, 41, 3), BAD);
        Check.sentence("toss: what 0 COMES, 1 ANGLE behind it, 2 how many TICKS it is UP as it LAY, 3 all TICKS");
        Check.due("what -1", x.toss(0, 0, 0, 1, -1), NONE);
        Check.due("what 0", x.toss(0, 0, 0, 1, 0), 0);
        Check.due("what 1", x.toss(0, 0, 0, 1, 1), 90);
        Check.due("what 2", x.toss(0, 0, 0, 1, 2), 1);
        Check.due("what 3", x.toss(0, 0, 0, 1, 3), 3);
        Check.due("what 4", x.toss(0, 0, 0, 1, 4), NONE);
        Check.sentence("up: a TICK (1 .. the last) of a THROW");
        Check.due("tick 0 of 3", x.up(0, 0, 0, 1, 0), BAD);
        Check.due("tick 1 of 3", x.up(0, 0, 0, 1, 1), 1);
        Check.due("tick 3 of 3", x.up(0, 0, 0, 1, 3), 0);
        Check.due("tick 4 of 3", x.up(0, 0, 0, 1, 4), BAD);
        Check.due("tick 42 of 42", x.up(0, 0, 0, 40, 42), 0);
        Check.due("tick 43 of 42", x.up(0, 0, 0, 40, 43), BAD);
        Check.due("rise 0, tick 1", x.up(0, 0, 0, 0, 1), BAD);
        Check.due("rise 41, tick 1", x.up(0, 0, 0, 41, 1), BAD);
    }

    // ---- 2 SAME, HEADS, STEADY

    private static void fraction(String call, long above, long below, long wantAbove, long wantBelow) {
        Check.due(call + ", above", above, wantAbove);
        Check.due(call + ", below", below, wantBelow);
    }

    private static void odds() {
        Check.sentence("SAME: a fraction in lowest terms");
        HeadsByHair x = Check.turning("turn 50 t=1&r>10", 6, 4);
        Check.law(x, "turn 50 t=1&r>7", 1, 0);
        Check.law(x, "turn 50 t=1", 1, 0);
        fraction("never otherwise", x.same(0, 0, 0, 0), x.same(0, 0, 0, 1), 1, 1);
        fraction("6 of 9", x.same(1, 0, 0, 0), x.same(1, 0, 0, 1), 2, 3);
        fraction("never", x.same(2, 0, 0, 0), x.same(2, 0, 0, 1), 0, 1);
        Check.sentence("SAME: part 0 above, 1 below the line. NO");
        Check.due("part -1", x.same(0, 0, 0, -1), NO);
        Check.due("part 2", x.same(0, 0, 0, 2), NO);
        Check.sentence("HEADS: if LAY is heads in n of 100 (0 .. 100), else tails");
        fraction("n 0", x.heads(1, 0, 0, 0, 0), x.heads(1, 0, 0, 0, 1), 1, 3);
        fraction("n 1", x.heads(1, 0, 0, 1, 0), x.heads(1, 0, 0, 1, 1), 101, 300);
        fraction("n 50", x.heads(1, 0, 0, 50, 0), x.heads(1, 0, 0, 50, 1), 1, 2);
        fraction("n 99", x.heads(1, 0, 0, 99, 0), x.heads(1, 0, 0, 99, 1), 199, 300);
        fraction("n 100", x.heads(1, 0, 0, 100, 0), x.heads(1, 0, 0, 100, 1), 2, 3);
        fraction("n 0, never otherwise", x.heads(0, 0, 0, 0, 0), x.heads(0, 0, 0, 0, 1), 0, 1);
        fraction("n 100, never otherwise", x.heads(0, 0, 0, 100, 0), x.heads(0, 0, 0, 100, 1), 1, 1);
        Check.due("n -1", x.heads(1, 0, 0, -1, 0), NO);
        Check.due("n 101", x.heads(1, 0, 0, 101, 0), NO);
        Check.due("part -1", x.heads(1, 0, 0, 50, -1), NO);
        Check.due("part 2", x.heads(1, 0, 0, 50, 2), NO);
    }

    private static void steadyIs(String when, int steady, int edgeOf) {
        HeadsByHair x = Check.turning("turn 50 t=1&" + when, 1, 0);
        Check.due("STEADY, but for " + when, x.steady(0, 0, 0, 0), steady);
        Check.due("EDGE OF, but for " + when, x.steady(0, 0, 0, 1), edgeOf);
        Check.due("what -1", x.steady(0, 0, 0, -1), NONE);
        Check.due("what 2", x.steady(0, 0, 0, 2), NONE);
    }

    private static void steady() {
        Check.sentence("STEADY: at how many RISES from 1 to 40; EDGE OF: the least RISE (2 .. 40) (-5: none)");
        steadyIs("r=0", 40, -5);
        steadyIs("r=1", 39, 2);
        steadyIs("r=2", 39, 2);
        steadyIs("r=3", 39, 3);
        steadyIs("r=39", 39, 39);
        steadyIs("r=40", 39, 40);
        steadyIs("r=41", 40, -5);
        steadyIs("r>0", 0, -5);
        steadyIs("r<40", 1, 40);
        steadyIs("r>39", 39, 40);
        steadyIs("!r=20", 1, 20);
        steadyIs("(r=2|r=30)", 38, 2);
    }

    // ---- COUNTS

    private static void counts() {
        Check.sentence("COUNTS: how many THROWS were (0 .. 999), how many came as they LAY (0 .. those)");
        HeadsByHair x = Check.withCoinAndHand(0, 0, 1, 0);
        Check.due("n -1", x.counts(0, 0, -1, 0), BAD);
        Check.due("n 0, s 0", x.counts(0, 0, 0, 0), 0);
        Check.due("n 0, s 1", x.counts(0, 0, 0, 1), BAD);
        Check.due("n 0, s -1", x.counts(0, 0, 0, -1), BAD);
        Check.due("n 1, s 1", x.counts(0, 0, 1, 1), 0);
        Check.due("n 1, s 2", x.counts(0, 0, 1, 2), BAD);
        Check.due("n 999, s 0", x.counts(0, 0, 999, 0), 1);
        Check.due("n 999, s 999", x.counts(0, 0, 999, 999), 999);
        Check.due("n 999, s 1000", x.counts(0, 0, 999, 1000), BAD);
        Check.due("n 1000, s 0", x.counts(0, 0, 1000, 0), BAD);
        Check.due("n 1000, s 1000", x.counts(0, 0, 1000, 1000), BAD);
        Check.due("of(0, 3)", x.of(0, 3), 999);
        Check.due("of(0, 4)", x.of(0, 4), 999);
        Check.due("n 0 again", x.counts(0, 0, 0, 0), 999);
        Check.due("of(0, 3)", x.of(0, 3), 0);
        Check.sentence("of: what 0 .. 4");
        Check.due("of(0, -1)", x.of(0, -1), NONE);
        Check.due("of(0, 5)", x.of(0, 5), NONE);
    }

    private static void leansAre(int n, int s, int want) {
        HeadsByHair x = Check.withCoinAndHand(0, 0, 1, 0);
        x.counts(0, 0, n, s);
        Check.due("LEANS of " + s + " of " + n, x.of(0, 2), want);
    }

    private static void leans() {
        Check.sentence("LEANS: 1000 times those that were the same, of all COINS, by all its THROWS (cut; -5: it has none)");
        leansAre(0, 0, -5);
        leansAre(1, 0, 0);
        leansAre(1, 1, 1000);
        leansAre(3, 1, 333);
        leansAre(3, 2, 666);
        leansAre(999, 1, 1);
        leansAre(999, 998, 998);
        leansAre(999, 999, 1000);
        HeadsByHair x = Check.withCoinAndHand(0, 0, 1, 0);
        for (int k = 1; k < 6; k++) x.coin(0, 0);
        for (int k = 0; k < 6; k++) x.counts(0, k, 999, k == 5 ? 998 : 999);
        Check.due("THROWS with all six COINS", x.of(0, 3), 5994);
        Check.due("those that were the same", x.of(0, 4), 5993);
        Check.due("LEANS", x.of(0, 2), 999);
        for (int k = 0; k < 6; k++) x.counts(0, k, 0, 0);
        Check.due("LEANS, none again", x.of(0, 2), -5);
    }

    private static void differ() {
        Check.sentence("DIFFER; -5: fewer than two HANDS with counts");
        HeadsByHair x = new HeadsByHair();
        Check.due("no HAND", x.differ(), -5);
        x.coin(0, 0);
        x.hand(1, 0);
        Check.due("one HAND without", x.differ(), -5);
        x.counts(0, 0, 999, 999);
        Check.due("one HAND with", x.differ(), -5);
        x.hand(1, 0);
        Check.due("one HAND with, one without", x.differ(), -5);
        x.counts(1, 0, 1, 1);
        Check.due("two alike", x.differ(), 0);
        x.counts(1, 0, 999, 998);
        Check.due("1000 and 998", x.differ(), 2);
        x.counts(1, 0, 5, 0);
        Check.due("1000 and 0", x.differ(), 1000);
        x.counts(0, 0, 0, 0);
        Check.due("one HAND has none again", x.differ(), -5);
        for (int k = 2; k < 6; k++) x.hand(1, 0);
        x.counts(5, 0, 3, 1);
        Check.due("0 and 333, those without left out", x.differ(), 333);
        x.counts(1, 0, 3, 2);
        Check.due("666 and 333", x.differ(), 333);
    }

    private static void far() {
        Check.sentence("FAR of a HAND (30 THROWS at most)");
        HeadsByHair x = Check.withCoinAndHand(0, 0, 1, 0);
        x.coin(0, 0);
        fraction("0 of 0", x.far(0, 0, 0), x.far(0, 0, 1), 1, 1);
        fraction("0 of 0, AT LEAST", x.far(0, 1, 0), x.far(0, 1, 1), 1, 1);
        x.counts(0, 0, 1, 0);
        fraction("0 of 1", x.far(0, 0, 0), x.far(0, 0, 1), 1, 2);
        fraction("0 of 1, AT LEAST", x.far(0, 1, 0), x.far(0, 1, 1), 1, 1);
        x.counts(0, 0, 29, 0);
        fraction("0 of 29", x.far(0, 0, 0), x.far(0, 0, 1), 1, 1 << 29);
        x.counts(0, 1, 1, 0);
        fraction("0 of 30", x.far(0, 0, 0), x.far(0, 0, 1), 1, 1 << 30);
        fraction("0 of 30, AT LEAST", x.far(0, 1, 0), x.far(0, 1, 1), 1, 1);
        x.counts(0, 1, 1, 1);
        fraction("1 of 30", x.far(0, 0, 0), x.far(0, 0, 1), 15, 1 << 29);
        fraction("1 of 30, AT LEAST", x.far(0, 1, 0), x.far(0, 1, 1), (1 << 30) - 1, 1 << 30);
        x.counts(0, 0, 29, 29);
        fraction("30 of 30", x.far(0, 0, 0), x.far(0, 0, 1), 1, 1 << 30);
        fraction("30 of 30, AT LEAST", x.far(0, 1, 0), x.far(0, 1, 1), 1, 1 << 30);
        x.counts(0, 0, 29, 28);
        fraction("29 of 30, AT LEAST", x.far(0, 1, 0), x.far(0, 1, 1), 31, 1 << 30);
        x.counts(0, 1, 2, 1);
        fraction("31 THROWS", x.far(0, 0, 0), x.far(0, 1, 1), NO, NO);
        x.counts(0, 1, 0, 0);
        x.counts(0, 0, 30, 15);
        fraction("15 of 30", x.far(0, 0, 0), x.far(0, 0, 1), 9694845, 1 << 26);
        x.counts(0, 0, 31, 15);
        fraction("31 THROWS with one COIN", x.far(0, 0, 0), x.far(0, 1, 1), NO, NO);
        x.counts(0, 0, 999, 999);
        fraction("999 THROWS", x.far(0, 0, 0), x.far(0, 1, 1), NO, NO);
        x.counts(0, 0, 2, 1);
        Check.due("what -1", x.far(0, -1, 0), NO);
        Check.due("what 2", x.far(0, 2, 0), NO);
        Check.due("part -1", x.far(0, 0, -1), NO);
        Check.due("part 2", x.far(0, 0, 2), NO);
    }

    private static void need() {
        HeadsByHair x = new HeadsByHair();
        Check.sentence("NEED: the fewest THROWS n (1 .. 8) with which by some k (0 .. n, the least such): 10 n and k; -5: none");
        Check.due("n 1, k 0: an even one always", x.need(0, 100, 100), 10);
        Check.due("n 1, k 0 fails by b 99", x.need(0, 100, 99), -5);
        Check.due("n 1, k 1", x.need(50, 50, 50), 11);
        Check.due("n 7, k 7: 1 of 128", x.need(100, 100, 1), 77);
        Check.due("no n: 1 of 256 is more than 0", x.need(100, 0, 0), -5);
        // 9 of 256 for 7 or more of 8 is above 3 of 100 and at most 4 of 100.
        Check.due("n 8, k 7", x.need(90, 80, 4), 87);
        Check.due("9 throws would be needed", x.need(90, 82, 4), -5);
        Check.sentence("with odds of a of 100 or more");
        Check.due("60 by 60 of 100", x.need(60, 60, 50), 11);
        Check.due("60 by 61 of 100", x.need(60, 61, 50), 32);
        Check.due("p 0, a 0", x.need(0, 0, 50), 11);
        Check.due("p 0, a 1", x.need(0, 1, 50), -5);
        Check.sentence("and an even one with odds of b of 100 or less");
        Check.due("50 by 50 of 100", x.need(100, 100, 50), 11);
        Check.due("50 by 49 of 100", x.need(100, 100, 49), 22);
        Check.due("25 by 25 of 100", x.need(100, 100, 25), 22);
        Check.due("25 by 24 of 100", x.need(100, 100, 24), 33);
        Check.due("75 by 75 of 100", x.need(60, 84, 75), 21);
        Check.due("75 by 74 of 100", x.need(60, 84, 74), -5);
        Check.sentence("need: BAD: p, a, b (0 .. 100)");
        int[] good = {0, 100};
        for (int p : good) for (int a : good) for (int b : good) {
            int want = b == 100 ? 10 : -5;
            Check.due("need(" + p + ", " + a + ", " + b + ")", x.need(p, a, b), want);
        }
        int[] bad = {-1, 101, MIN, MAX};
        for (int n : bad) {
            Check.due("p " + n, x.need(n, 50, 50), BAD);
            Check.due("a " + n, x.need(50, n, 50), BAD);
            Check.due("b " + n, x.need(50, 50, n), BAD);
        }
    }

    // ---- MADE UP

    private static void rows() {
        Check.sentence("a ROW of sides told by hand (16 at most)");
        HeadsByHair x = new HeadsByHair();
        Check.due("count(3)", x.count(3), 0);
        for (int k = 1; k <= 16; k++) Check.due("side " + k, x.row(k & 1), k);
        Check.due("the 17th", x.row(0), FULL);
        Check.due("the 17th", x.row(1), FULL);
        Check.due("count(3)", x.count(3), 16);
        Check.due("RUNS", x.runs(0), 16);
        Check.sentence("row: A side (0, 1); (-1: it is empty then, 0). BAD");
        Check.due("row(-2), full", x.row(-2), BAD);
        Check.due("row(2), full", x.row(2), BAD);
        Check.due("row(-1), full", x.row(-1), 0);
        Check.due("count(3)", x.count(3), 0);
        Check.due("row(-1), empty", x.row(-1), 0);
        Check.due("row(-2), empty", x.row(-2), BAD);
        Check.due("row(2), empty", x.row(2), BAD);
        Check.due("row(0)", x.row(0), 1);
        Check.due("row(1)", x.row(1), 2);
        Check.due("count(3)", x.count(3), 2);
    }

    private static void rowIs(String sides, int runs, int longest, int above, int below) {
        HeadsByHair x = new HeadsByHair();
        Check.fillRow(x, sides);
        String call = " of '" + sides + "'";
        Check.due("RUNS" + call, x.runs(0), runs);
        Check.due("LONGEST" + call, x.runs(1), longest);
        fraction("ODDS" + call, x.made(0), x.made(1), above, below);
        Check.due("runs(-1)", x.runs(-1), NONE);
        Check.due("runs(2)", x.runs(2), NONE);
        Check.due("made(-1)", x.made(-1), NONE);
        Check.due("made(2)", x.made(2), NONE);
    }

    private static void madeUp() {
        Check.sentence("RUNS: how many stretches of one side; LONGEST of these; ODDS of as many RUNS or fewer");
        rowIs("", 0, 0, 1, 1);
        rowIs("0", 1, 1, 1, 1);
        rowIs("1", 1, 1, 1, 1);
        rowIs("00", 1, 2, 1, 2);
        rowIs("01", 2, 1, 1, 1);
        rowIs("000", 1, 3, 1, 4);
        rowIs("001", 2, 2, 3, 4);
        rowIs("011", 2, 2, 3, 4);
        rowIs("010", 3, 1, 1, 1);
        rowIs("0000000000000000", 1, 16, 1, 1 << 15);
        rowIs("1111111111111111", 1, 16, 1, 1 << 15);
        rowIs("0111111111111111", 2, 15, 1, 1 << 11);
        rowIs("1111111111111110", 2, 15, 1, 1 << 11);
        rowIs("0101010101010101", 16, 1, 1, 1);
        rowIs("0101010101010100", 15, 2, (1 << 15) - 1, 1 << 15);
        rowIs("0011001100110011", 8, 2, 1, 2);
    }

    // ---- bets, fairness, learning

    private static void worth() {
        Check.sentence("WORTH: (0 .. 100): of 1000 bets what he wins more than he loses in the mean (cut; may be below 0)");
        HeadsByHair x = Check.turning("turn 50 t=1&r>20", 18, 3);
        Check.law(x, "turn 50 t=1&r>16", 1, 0);
        Check.law(x, "turn 50 t=1", 1, 0);
        Check.law(x, "turn 50 r=0", 1, 0);
        Check.law(x, "turn 50 t=1&r>18", 1, 0);
        // RISES 15 .. 21: 6 of 7, 2 of 7, none, all, 4 of 7
        Check.due("6 of 7, n 0: 5000 by 7", x.worth(0, 0, 0, 0), 714);
        Check.due("6 of 7, n 49: 100 by 7", x.worth(0, 0, 0, 49), 14);
        Check.due("6 of 7, n 50", x.worth(0, 0, 0, 50), 0);
        Check.due("6 of 7, n 51: -100 by 7", x.worth(0, 0, 0, 51), -14);
        Check.due("6 of 7, n 100", x.worth(0, 0, 0, 100), -714);
        Check.due("2 of 7, n 0: 3000 by 7", x.worth(1, 0, 0, 0), 428);
        Check.due("2 of 7, n 100", x.worth(1, 0, 0, 100), -428);
        Check.due("none, n 0", x.worth(2, 0, 0, 0), 1000);
        Check.due("none, n 100", x.worth(2, 0, 0, 100), -1000);
        Check.due("all, n 0", x.worth(3, 0, 0, 0), 1000);
        Check.due("all, n 1", x.worth(3, 0, 0, 1), 980);
        Check.due("all, n 99", x.worth(3, 0, 0, 99), -980);
        Check.due("all, n 100", x.worth(3, 0, 0, 100), -1000);
        Check.due("4 of 7, n 0: 1000 by 7", x.worth(4, 0, 0, 0), 142);
        Check.due("n -1", x.worth(0, 0, 0, -1), -1002);
        Check.due("n 101", x.worth(0, 0, 0, 101), -1002);
        Check.due("law 5", x.worth(5, 0, 0, 0), -1001);
        Check.due("hand 1", x.worth(0, 1, 0, 0), -1001);
        Check.due("coin 1", x.worth(0, 0, 1, 0), -1001);
    }

    private static void fair() {
        Check.sentence("FAIR: p of 100 times (1 .. 99): 10000 by p (100 - p), a fraction");
        HeadsByHair x = new HeadsByHair();
        Check.due("p 0", x.fair(0, 0), BAD);
        fraction("p 1", x.fair(1, 0), x.fair(1, 1), 10000, 99);
        fraction("p 2", x.fair(2, 0), x.fair(2, 1), 2500, 49);
        fraction("p 10", x.fair(10, 0), x.fair(10, 1), 100, 9);
        fraction("p 50", x.fair(50, 0), x.fair(50, 1), 4, 1);
        fraction("p 98", x.fair(98, 0), x.fair(98, 1), 2500, 49);
        fraction("p 99", x.fair(99, 0), x.fair(99, 1), 10000, 99);
        Check.due("p 100", x.fair(100, 0), BAD);
        Check.due("p -1", x.fair(-1, 1), BAD);
        Check.due("p 101", x.fair(101, 1), BAD);
        Check.due("part -1", x.fair(1, -1), NONE);
        Check.due("part 2", x.fair(99, 2), NONE);
    }

    private static void learnsIs(int[] hand, int n, int m, int throwsMade, int rise, int wandering) {
        HeadsByHair x = Check.withCoinAndHand(0, 0, hand[0], hand[1]);
        x.coin(0, 0);
        x.counts(0, 0, Math.min(999, throwsMade), 0);
        x.counts(0, 1, throwsMade - Math.min(999, throwsMade), 0);
        String call = throwsMade + " THROWS of " + hand[0] + ", " + hand[1] + " by " + n + ", " + m;
        Check.due("RISE behind " + call, x.learns(0, n, m, 0), rise);
        Check.due("WANDERING behind " + call, x.learns(0, n, m, 1), wandering);
        Check.due("what -1", x.learns(0, n, m, -1), NONE);
        Check.due("what 2", x.learns(0, n, m, 2), NONE);
        Check.due("RISE is as before", x.of(0, 0), hand[0]);
        Check.due("WANDERING is as before", x.of(0, 1), hand[1]);
    }

    private static void learns() {
        Check.sentence("LEARNS: of each whole 100 of its THROWS");
        int[] hand = {10, 8};
        learnsIs(hand, 3, 2, 0, 10, 8);
        learnsIs(hand, 3, 2, 99, 10, 8);
        learnsIs(hand, 3, 2, 100, 13, 6);
        learnsIs(hand, 3, 2, 199, 13, 6);
        learnsIs(hand, 3, 2, 200, 16, 4);
        learnsIs(hand, 1, 1, 999, 19, 0);
        learnsIs(hand, 1, 1, 1000, 20, 0);
        Check.sentence("a HAND's RISE would be n more (30 at most)");
        learnsIs(hand, 9, 0, 200, 28, 8);
        learnsIs(hand, 5, 0, 300, 25, 8);
        learnsIs(hand, 5, 0, 400, 30, 8);
        learnsIs(hand, 7, 0, 300, 30, 8);
        learnsIs(new int[] {30, 0}, 9, 9, 1998, 30, 0);
        learnsIs(new int[] {29, 0}, 1, 0, 100, 30, 0);
        learnsIs(new int[] {29, 0}, 2, 0, 100, 30, 0);
        Check.sentence("its WANDERING m less (0 at least)");
        learnsIs(hand, 0, 7, 100, 10, 1);
        learnsIs(hand, 0, 8, 100, 10, 0);
        learnsIs(hand, 0, 9, 100, 10, 0);
        learnsIs(hand, 0, 4, 200, 10, 0);
        learnsIs(hand, 0, 3, 300, 10, 0);
        Check.sentence("learns: by n, m (0 .. 9)");
        HeadsByHair x = Check.withCoinAndHand(0, 0, 10, 8);
        int[] bad = {-1, 10, MIN, MAX};
        for (int k : bad) {
            Check.due("n " + k, x.learns(0, k, 0, 0), BAD);
            Check.due("m " + k, x.learns(0, 0, k, 0), BAD);
        }
    }

    // ---- ACTS

    /** turns, lands and leans of a KIND told by hand, not by classes. */
    private static int turns(int kind, int i, int x) {
        if (kind == 1 || kind == 2) return x * 3 + i;
        return kind == 6 ? (x * 3 + i) ^ i : x + i;
    }

    private static int lands(int kind, int i, int v, int x) {
        int plain = turns(kind, i, x) - v;
        return kind == 3 ? -plain : kind == 4 ? -plain + v : plain;
    }

    private static int leans(int kind, int i, int v, int x) {
        if (kind == 5) return lands(kind, i, v, x) * 2 ^ 7;
        if (kind == 2 || kind == 6) return lands(kind, i, v, x - 1) * 2 + turns(kind, i, 2);
        return lands(kind, i, v, x) * 2;
    }

    private static final int[] STEEP = {0, 1, -1, MAX, MIN, MAX - 1, MIN + 1, MAX / 3, MAX / 3 + 1, MIN / 2, 1 << 30};

    private static void acts() {
        Check.sentence("ACTS of a LAW with x (ints, wrapping)");
        for (int kind = 0; kind < 7; kind++) {
            HeadsByHair x = new HeadsByHair();
            Check.law(x, "catch 1", kind, 9);
            for (int k = 1; k < 7; k++) Check.law(x, "catch 1", 0, 0);
            Check.law(x, "catch 1", kind, 9);
            for (int some : STEEP) {
                for (int i = 0; i < 8; i += 7) {
                    String call = " of KIND " + kind + ", LAW " + i + ", x " + some;
                    Check.due("turns" + call, x.act(i, 0, some), turns(kind, i, some));
                    Check.due("lands" + call, x.act(i, 1, some), lands(kind, i, 9, some));
                    Check.due("leans" + call, x.act(i, 2, some), leans(kind, i, 9, some));
                }
            }
        }
        Check.sentence("An ACT (0 turns, 1 lands, 2 leans) of a LAW. 0, and no TRACE then: no such LAW, act");
        HeadsByHair x = new HeadsByHair();
        Check.law(x, "catch 1", 0, 3);
        int[][] none = {{0, -1}, {0, 3}, {-1, 0}, {1, 0}, {1, 3}, {MIN, MAX}};
        for (int[] one : none) {
            Check.due("act(0, 2, 50)", x.act(0, 2, 50), 94);
            Check.due("count(5)", x.count(5), 3);
            Check.due("act(" + one[0] + ", " + one[1] + ", 50)", x.act(one[0], one[1], 50), 0);
            Check.due("count(5)", x.count(5), 0);
            Check.due("trace(0)", x.trace(0), NONE);
        }
    }

    private static void traces() {
        Check.sentence("THE TRACE: the numbers of the bodies that ran in the latest act(), as they began; the first 20 are kept");
        HeadsByHair x = new HeadsByHair();
        Check.due("trace(0), no act yet", x.trace(0), NONE);
        Check.due("count(5), no act yet", x.count(5), 0);
        Check.law(x, "catch 1", 6, 0);
        // The longest that there can be has 9 bodies.
        x.act(0, 2, 1);
        int[] bodies = {41, 3, 2, 51, 11, 1, 51, 11, 1};
        Check.due("count(5)", x.count(5), 9);
        Check.due("trace(-1)", x.trace(-1), NONE);
        for (int i = 0; i < 9; i++) Check.due("trace(" + i + ")", x.trace(i), bodies[i]);
        int[] none = {9, 10, 19, 20, 21, MAX, MIN};
        for (int i : none) Check.due("trace(" + i + ")", x.trace(i), NONE);
        Check.sentence("in the latest act()");
        x.act(0, 0, 1);
        Check.due("count(5)", x.count(5), 3);
        Check.due("trace(2)", x.trace(2), 1);
        Check.due("trace(3)", x.trace(3), NONE);
        x.toss(0, 0, 0, 1, 0);
        x.trace(7);
        Check.due("count(5), behind other calls", x.count(5), 3);
    }

    private static void as() {
        Check.sentence("A LAW taken for a KIND k (0 .. 6), or one under that: its v. NONE: law, k; -6");
        HeadsByHair x = new HeadsByHair();
        Check.due("as(0, 0), no LAW", x.as(0, 0), NONE);
        Check.law(x, "catch 1", 6, 0);
        Check.law(x, "catch 1", 0, 9);
        int[] ofSeeming = {NONE, 0, 0, 0, -6, -6, -6, 0, NONE}, ofThrow = {NONE, 9, -6, -6, -6, -6, -6, -6, NONE};
        for (int k = -1; k <= 7; k++) {
            Check.due("SEEMING as " + k, x.as(0, k), ofSeeming[k + 1]);
            Check.due("THROW as " + k, x.as(1, k), ofThrow[k + 1]);
            Check.due("LAW 2 as " + k, x.as(2, k), NONE);
            Check.due("LAW -1 as " + k, x.as(-1, k), NONE);
        }
    }

    // ---- THE IMAGE

    private static void image() {
        Check.sentence("undo: STATE: there is none");
        HeadsByHair x = new HeadsByHair();
        Check.due("undo()", x.undo(), STATE);
        Check.due("undo(), again", x.undo(), STATE);
        Check.sentence("THE IMAGE is taken: how many HANDS there are");
        Check.due("image() of nothing", x.image(), 0);
        Check.due("undo()", x.undo(), 0);
        for (int k = 0; k < 6; k++) x.hand(k + 1, k);
        Check.due("image() with 6", x.image(), 6);
        Check.sentence("All is as THE IMAGE: how many HANDS");
        Check.due("undo(), nothing between", x.undo(), 6);
        Check.due("hand, the 7th", x.hand(1, 1), FULL);
        Check.due("undo(), again", x.undo(), 6);
        Check.due("RISE of HAND 5", x.of(5, 0), 6);
        Check.sentence("all that there is (but THE IMAGE and THE TRACE)");
        HeadsByHair y = new HeadsByHair();
        y.image();
        Check.law(y, "catch 1", 0, 5);
        y.act(0, 1, 1);
        y.undo();
        Check.due("count(5), behind undo()", y.count(5), 2);
        Check.due("trace(0), behind undo()", y.trace(0), 2);
        Check.due("undo(), THE IMAGE is still there", y.undo(), 0);
        y.act(0, 1, 1);
        Check.due("trace(0), no such LAW then", y.trace(0), NONE);
    }

    /** All full when THE IMAGE is taken, all full again behind undo(). */
    private static void fullImage() {
        Check.sentence("All is as THE IMAGE, a full one");
        HeadsByHair x = new HeadsByHair();
        for (int k = 0; k < 6; k++) x.coin(k, k);
        for (int k = 0; k < 6; k++) x.hand(k + 1, k);
        x.counts(5, 5, 999, 998);
        for (int k = 0; k < 8; k++) Check.law(x, "catch " + k, k % 7, k);
        Check.fillRow(x, "0101010101010101");
        Check.feed(x, "x".repeat(120));
        Check.due("image()", x.image(), 6);
        x.row(-1);
        x.counts(5, 5, 0, 0);
        x.counts(0, 0, 4, 4);
        Check.due("undo()", x.undo(), 6);
        Check.due("coin", x.coin(0, 0), FULL);
        Check.due("hand", x.hand(1, 0), FULL);
        Check.due("law", x.law(0, 0), FULL);
        Check.due("row", x.row(0), FULL);
        Check.due("feed", x.feed(0, 1), FULL);
        Check.due("RUNS", x.runs(0), 16);
        Check.due("COUNTS of HAND 5 and COIN 5", x.counts(5, 5, 1, 1), 999);
        Check.due("COUNTS of HAND 0 and COIN 0", x.counts(0, 0, 1, 1), 0);
        Check.due("CATCH of LAW 7", x.told(7, 2), 7);
    }

    private static void count() {
        Check.sentence("count: 0 COINS .. 5 bodies that ran in the latest act(). NONE");
        HeadsByHair x = new HeadsByHair();
        int[] none = {-1, 6, MIN, MAX};
        for (int what : none) Check.due("count(" + what + ")", x.count(what), NONE);
        for (int what = 0; what < 6; what++) Check.due("count(" + what + ") of a new object", x.count(what), 0);
    }

    private static void lastCalls() {
        Check.sentence("An object is used for at most 512 calls after it has been made");
        HeadsByHair x = Check.turning("turn 50 t=1", 3, 0);
        // 2 calls, 2 feeds and a law() were; these are the 6th to the 512th.
        for (int call = 6; call <= 511; call++) Check.due("toss, call " + call, x.toss(0, 0, 0, 3, 1), 50);
        Check.due("the 512th", x.steady(0, 0, 0, 0), 0);
    }

    public static void main(String[] args) {
        coins();
        hands();
        wandering();
        tape();
        feeds();
        laws();
        kinds();
        catches();
        tests();
        angles();
        sides();
        seeming();
        caughtFallenSpun();
        ticks();
        odds();
        steady();
        counts();
        leans();
        differ();
        far();
        need();
        rows();
        madeUp();
        worth();
        fair();
        learns();
        acts();
        traces();
        as();
        image();
        fullImage();
        count();
        lastCalls();
        Check.end("BoundsTest");
    }
}
