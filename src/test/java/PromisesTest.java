/** Each promise of the document by itself: ordinary inputs, the edges that it names, wrong inputs. */
public final class PromisesTest {
    private static final int NONE = HeadsByHair.NONE, BAD = HeadsByHair.BAD;
    private static final int STATE = HeadsByHair.STATE, FULL = HeadsByHair.FULL;
    private static final long NO = HeadsByHair.NO;

    private static int asked = 0, wrong = 0;
    private static String promise = "";

    private static void due(String call, long got, long want) {
        asked++;
        if (got == want) return;
        wrong++;
        System.out.println(promise + ": " + call + " answered " + got + ", due is " + want);
    }

    /** Feeds a text whole; the answer of the last feed. */
    private static int feed(HeadsByHair x, String text) {
        int size = 0;
        for (int at = 0; at < text.length(); at += 8) {
            String some = text.substring(at, Math.min(at + 8, text.length()));
            long w = 0;
            for (int k = 0; k < some.length(); k++) w = w << 8 | some.charAt(k) & 255;
            size = x.feed(w, some.length());
        }
        return size;
    }

    private static int law(HeadsByHair x, String text, int kind, int v) {
        feed(x, text);
        return x.law(kind, v);
    }

    /** What a new object answers to a text taken for a LAW: its number (0), or -10 less the FAULT. */
    private static int fresh(String text) {
        return law(new HeadsByHair(), text, 1, 0);
    }

    private static void fault(String text, int place) {
        due("law of '" + text + "'", fresh(text), -10 - place);
    }

    private static void good(String text) {
        due("law of '" + text + "'", fresh(text), 0);
    }

    private static HeadsByHair withCoinAndHand(int edge, int bend, int rise, int wandering) {
        HeadsByHair x = new HeadsByHair();
        x.coin(edge, bend);
        x.hand(rise, wandering);
        return x;
    }

    private static void newObject() {
        promise = "1 a new object";
        HeadsByHair x = new HeadsByHair();
        for (int what = 0; what < 6; what++) due("count(" + what + ")", x.count(what), 0);
        due("of(0, 0)", x.of(0, 0), NONE);
        due("told(0, 0)", x.told(0, 0), NONE);
        due("trace(0)", x.trace(0), NONE);
        due("undo()", x.undo(), STATE);
        due("runs(0)", x.runs(0), 0);
        due("differ()", x.differ(), -5);
        due("NONE", HeadsByHair.NONE, -1);
        due("BAD", HeadsByHair.BAD, -2);
        due("STATE", HeadsByHair.STATE, -3);
        due("FULL", HeadsByHair.FULL, -4);
        due("NO", HeadsByHair.NO, Long.MIN_VALUE);
    }

    private static void coins() {
        promise = "2 coin";
        HeadsByHair x = new HeadsByHair();
        due("coin(0, 0)", x.coin(0, 0), 0);
        due("coin(9, 9)", x.coin(9, 9), 1);
        due("coin(-1, 0)", x.coin(-1, 0), BAD);
        due("coin(10, 0)", x.coin(10, 0), BAD);
        due("coin(0, -1)", x.coin(0, -1), BAD);
        due("coin(0, 10)", x.coin(0, 10), BAD);
        due("coin(min, max)", x.coin(Integer.MIN_VALUE, Integer.MAX_VALUE), BAD);
        due("count(0)", x.count(0), 2);
        for (int k = 2; k < 6; k++) due("coin(3, 4)", x.coin(3, 4), k);
        due("coin(3, 4), the 7th", x.coin(3, 4), FULL);
        due("coin(10, 4), the 7th", x.coin(10, 4), BAD);
        due("count(0)", x.count(0), 6);
    }

    private static void hands() {
        promise = "3 hand";
        HeadsByHair x = new HeadsByHair();
        due("hand(1, 0)", x.hand(1, 0), 0);
        due("hand(30, 9)", x.hand(30, 9), 1);
        due("hand(0, 0)", x.hand(0, 0), BAD);
        due("hand(31, 0)", x.hand(31, 0), BAD);
        due("hand(1, -1)", x.hand(1, -1), BAD);
        due("hand(1, 10)", x.hand(1, 10), BAD);
        due("count(1)", x.count(1), 2);
        for (int k = 2; k < 6; k++) due("hand(5, 1)", x.hand(5, 1), k);
        due("hand(5, 1), the 7th", x.hand(5, 1), FULL);
        due("hand(5, 10), the 7th", x.hand(5, 10), BAD);
        due("count(1)", x.count(1), 6);
    }

    private static void ofHand() {
        promise = "4 of";
        HeadsByHair x = withCoinAndHand(0, 0, 17, 4);
        x.coin(1, 1);
        x.hand(3, 2);
        due("of(0, 0)", x.of(0, 0), 17);
        due("of(0, 1)", x.of(0, 1), 4);
        due("of(0, 2)", x.of(0, 2), -5);
        due("of(0, 3)", x.of(0, 3), 0);
        due("of(0, 4)", x.of(0, 4), 0);
        due("of(1, 0)", x.of(1, 0), 3);
        due("of(1, 1)", x.of(1, 1), 2);
        x.counts(0, 0, 7, 2);
        x.counts(0, 1, 999, 3);
        due("of(0, 2)", x.of(0, 2), 4);
        due("of(0, 3)", x.of(0, 3), 1006);
        due("of(0, 4)", x.of(0, 4), 5);
        due("of(1, 2)", x.of(1, 2), -5);
        due("of(0, 5)", x.of(0, 5), NONE);
        due("of(0, -1)", x.of(0, -1), NONE);
        due("of(2, 0)", x.of(2, 0), NONE);
        due("of(-1, 0)", x.of(-1, 0), NONE);
    }

    private static void counts() {
        promise = "5 counts";
        HeadsByHair x = withCoinAndHand(0, 0, 1, 0);
        x.coin(0, 0);
        x.hand(1, 0);
        due("counts(0, 0, 0, 0)", x.counts(0, 0, 0, 0), 0);
        due("counts(0, 0, 999, 999)", x.counts(0, 0, 999, 999), 0);
        due("counts(0, 1, 4, 1)", x.counts(0, 1, 4, 1), 0);
        due("counts(1, 0, 6, 2)", x.counts(1, 0, 6, 2), 0);
        due("counts(0, 0, 3, 0)", x.counts(0, 0, 3, 0), 999);
        due("counts(0, 1, 5, 5)", x.counts(0, 1, 5, 5), 4);
        due("of(0, 3)", x.of(0, 3), 8);
        due("of(0, 4)", x.of(0, 4), 5);
        due("of(1, 3)", x.of(1, 3), 6);
        due("counts(0, 0, 1000, 0)", x.counts(0, 0, 1000, 0), BAD);
        due("counts(0, 0, -1, -1)", x.counts(0, 0, -1, -1), BAD);
        due("counts(0, 0, 5, 6)", x.counts(0, 0, 5, 6), BAD);
        due("counts(0, 0, 5, -1)", x.counts(0, 0, 5, -1), BAD);
        due("counts(2, 0, 1, 1)", x.counts(2, 0, 1, 1), NONE);
        due("counts(-1, 0, 1, 1)", x.counts(-1, 0, 1, 1), NONE);
        due("counts(0, 2, 1, 1)", x.counts(0, 2, 1, 1), NONE);
        due("counts(0, -1, 1, 1)", x.counts(0, -1, 1, 1), NONE);
        due("counts(2, 0, 1000, 1)", x.counts(2, 0, 1000, 1), NONE);
        due("of(0, 3), behind refusals", x.of(0, 3), 8);
        due("of(0, 4), behind refusals", x.of(0, 4), 5);
    }

    private static void feeds() {
        promise = "6 feed";
        HeadsByHair x = new HeadsByHair();
        due("feed(0, 0)", x.feed(0, 0), BAD);
        due("feed(0, 9)", x.feed(0, 9), BAD);
        due("feed(0, -1)", x.feed(0, -1), BAD);
        // Bytes above the n lowest are not fed: here those of "zz" ahead of "catch ".
        due("feed of 6 bytes of 8", x.feed(0x7A7A636174636820L, 6), 6);
        due("feed('7')", x.feed(0x37L, 1), 7);
        due("law(1, 0)", x.law(1, 0), 0);
        due("told(0, 2)", x.told(0, 2), 7);
        for (int k = 1; k <= 14; k++) due("feed(.., 8)", x.feed(-1L, 8), 8 * k);
        due("feed(.., 7)", x.feed(0, 7), 119);
        due("feed(.., 2), for 121", x.feed(0, 2), FULL);
        due("feed(.., 9), when full", x.feed(0, 9), BAD);
        due("count(4)", x.count(4), 119);
        due("feed(.., 1)", x.feed(0, 1), 120);
        due("feed(.., 1), for 121", x.feed(0, 1), FULL);
        due("law of bytes 255", x.law(1, 0), -10);
        due("count(4)", x.count(4), 0);
    }

    private static void laws() {
        promise = "7 law";
        HeadsByHair x = new HeadsByHair();
        feed(x, "turn 5 r>1");
        due("law(7, 0)", x.law(7, 0), NONE);
        due("law(-1, 0)", x.law(-1, 0), NONE);
        due("law(7, 10)", x.law(7, 10), NONE);
        due("law(0, 10)", x.law(0, 10), BAD);
        due("law(0, -1)", x.law(0, -1), BAD);
        due("count(4), behind refusals", x.count(4), 10);
        due("law(0, 0)", x.law(0, 0), 0);
        due("count(4), behind a LAW", x.count(4), 0);
        due("law of a fault", law(x, "turn 5 r>1;", 0, 0), -21);
        due("count(4), behind a FAULT", x.count(4), 0);
        due("count(2), behind a FAULT", x.count(2), 1);
        for (int k = 1; k < 8; k++) due("law " + k, law(x, "catch 3", k % 7, 9), k);
        due("law, the 9th", law(x, "catch 3", 0, 0), FULL);
        due("count(4), behind FULL", x.count(4), 7);
        due("law(7, 0), when full", x.law(7, 0), NONE);
        due("law(0, 10), when full", x.law(0, 10), BAD);
        feed(x, "?");
        due("law of a fault, when full", x.law(0, 0), FULL);
        due("count(4)", x.count(4), 8);
    }

    private static void faults() {
        promise = "7 law: FAULT";
        good("turn 0 r<0");
        good("lean 99 e=10");
        good("skip b>9");
        good("catch 0");
        good("catch 99");
        good("skip h=1|t>2&!(r<3|e=4)");
        good("skip (((((r<1)))))");
        good("skip !!!!!r<1");
        good("skip !(!(!r<1))&!!!!!r<1|(((((r<1)))))");
        good("catch 1;catch 2;catch 3;catch 4;catch 5;catch 6;catch 7;catch 8");
        fault("", 0);
        fault("x", 0);
        fault("T", 0);
        fault("turn", 4);
        fault("tern 1 r<1", 1);
        fault("leap 1 r<1", 3);
        fault("catch1", 5);
        fault("catch  1", 6);
        fault("catch ", 6);
        fault("catch 01", 7);
        fault("catch 123", 8);
        fault("catch 1 ", 7);
        fault("catch 1)", 7);
        fault("turn 1", 6);
        fault("turn 1r<1", 6);
        fault("turn 100 r<1", 7);
        fault("turn r<1", 5);
        fault("skip 1 r<1", 5);
        fault("skip  r<1", 5);
        fault("turn 1 !!!!!!r<1", 12);
        fault("lean 1 ((((((r<1", 12);
        fault("catch /", 6);
        fault("catch :", 6);
        fault("catch 1/", 7);
        fault("catch 1:", 7);
        fault("skip r</", 7);
        fault("skip r", 6);
        fault("skip r1", 6);
        fault("skip r<", 7);
        fault("skip r<=1", 7);
        fault("skip r<00", 8);
        fault("skip r<100", 9);
        fault("skip x<1", 5);
        fault("skip r<1&", 9);
        fault("skip r<1|", 9);
        fault("skip r<1&&r<1", 9);
        fault("skip r<1 &r<1", 8);
        fault("skip r<1)", 8);
        fault("skip (r<1", 9);
        fault("skip (r<1;", 9);
        fault("skip ()", 6);
        fault("skip !", 6);
        fault("skip !;", 6);
        fault("skip !!!!!!r<1", 10);
        fault("skip ((((((r<1", 10);
        fault("skip !(!(!(r<1", 10);
        fault("skip (((((r<1)))))&((((((r<1", 24);
        fault("catch 1;", 8);
        fault("catch 1;;", 8);
        fault(";catch 1", 0);
        fault("catch 1; catch 1", 8);
        fault("catch 1;catch 2;catch 3;catch 4;catch 5;catch 6;catch 7;catch 8;", 63);
        fault("catch 1" + (char) 0, 7);
        fault("catch " + (char) 0xB1, 6);
    }

    private static void told() {
        promise = "8 told";
        HeadsByHair x = new HeadsByHair();
        law(x, "turn 5 r>1", 4, 7);
        law(x, "catch 12;turn 5 r>1;catch 3;skip r<1", 6, 0);
        due("told(0, 0)", x.told(0, 0), 4);
        due("told(0, 1)", x.told(0, 1), 7);
        due("told(0, 2)", x.told(0, 2), 0);
        due("told(1, 0)", x.told(1, 0), 6);
        due("told(1, 1)", x.told(1, 1), 0);
        due("told(1, 2)", x.told(1, 2), 3);
        due("told(1, 3)", x.told(1, 3), NONE);
        due("told(1, -1)", x.told(1, -1), NONE);
        due("told(2, 0)", x.told(2, 0), NONE);
        due("told(-1, 0)", x.told(-1, 0), NONE);
    }

    /** The ANGLE behind a THROW of one TICK in which the test is true (1) or not (0). */
    private static void test(String when, int edge, int bend, int rise, boolean isTrue) {
        HeadsByHair x = withCoinAndHand(edge, bend, 1, 0);
        law(x, "turn 1 (" + when + ")&t=" + rise, 1, 0);
        due(when, x.toss(0, 0, 0, rise, 1), isTrue ? 1 : 0);
    }

    private static void tests() {
        promise = "9 toss: E";
        test("r<4", 0, 0, 3, true);
        test("r<3", 0, 0, 3, false);
        test("r=3", 0, 0, 3, true);
        test("r=4", 0, 0, 3, false);
        test("r>2", 0, 0, 3, true);
        test("r>3", 0, 0, 3, false);
        test("e=6", 6, 7, 3, true);
        test("b=7", 6, 7, 3, true);
        test("e=7", 6, 7, 3, false);
        test("b>7", 6, 7, 3, false);
        test("h=0", 6, 7, 3, true);
        test("t=40", 6, 7, 40, true);
        test("t<40", 6, 7, 40, false);
        test("r=1|r=2&r=3", 0, 0, 1, true);
        test("r=3&r=2|r=1", 0, 0, 1, true);
        test("(r=1|r=2)&r=3", 0, 0, 1, false);
        test("!r=1|r=1", 0, 0, 1, true);
        test("!r=1&r=2", 0, 0, 1, false);
        test("!(r=1&r=2)", 0, 0, 1, true);
        test("!(r=1|r=2)", 0, 0, 1, false);
        test("!!r=1", 0, 0, 1, true);
        test("!!!r=1", 0, 0, 1, false);
        test("r=1&r=1&r=2|r=2&r=1|r=2", 0, 0, 1, false);
        test("r=2|r=2|r=1&r=1&r=1", 0, 0, 1, true);
        HeadsByHair x = withCoinAndHand(0, 0, 1, 0);
        x.hand(1, 0);
        law(x, "turn 4 h=1", 1, 0);
        due("h of HAND 0", x.toss(0, 0, 0, 2, 1), 0);
        due("h of HAND 1", x.toss(0, 1, 0, 2, 1), 8);
    }

    private static void tosses() {
        promise = "9 toss";
        HeadsByHair x = withCoinAndHand(0, 0, 5, 2);
        law(x, "turn 20 r>0;turn 7 t>2;skip t=2|t=5;catch 1", 1, 0);
        // ANGLE tick by tick for RISE 6: 20, 20, 47, 74, 74, 1, 28
        due("COMES", x.toss(0, 0, 0, 6, 0), 1);
        due("ANGLE", x.toss(0, 0, 0, 6, 1), 28);
        due("TICKS as it LAY", x.toss(0, 0, 0, 6, 2), 5);
        due("all TICKS", x.toss(0, 0, 0, 6, 3), 7);
        due("COMES, RISE 3", x.toss(0, 0, 0, 3, 0), 0);
        due("ANGLE, RISE 3", x.toss(0, 0, 0, 3, 1), 74);
        due("all TICKS, RISE 40", x.toss(0, 0, 0, 40, 3), 41);
        due("rise 0", x.toss(0, 0, 0, 0, 0), BAD);
        due("rise 41", x.toss(0, 0, 0, 41, 0), BAD);
        due("rise -1", x.toss(0, 0, 0, -1, 3), BAD);
        due("what 4", x.toss(0, 0, 0, 1, 4), NONE);
        due("what -1", x.toss(0, 0, 0, 1, -1), NONE);
        due("law 1", x.toss(1, 0, 0, 1, 0), NONE);
        due("hand 1", x.toss(0, 1, 0, 1, 0), NONE);
        due("coin 1", x.toss(0, 0, 1, 1, 0), NONE);
        due("law -1", x.toss(-1, 0, 0, 1, 0), NONE);
        due("hand -1", x.toss(0, -1, 0, 1, 0), NONE);
        due("coin -1", x.toss(0, 0, -1, 1, 0), NONE);
        due("what 4 and rise 0", x.toss(0, 0, 0, 0, 4), NONE);
    }

    /** The sides tick by tick, as a text. */
    private static String sides(String text, int kind, int v, int edge, int bend, int rise) {
        HeadsByHair x = withCoinAndHand(edge, bend, 1, 0);
        law(x, text, kind, v);
        StringBuilder sides = new StringBuilder();
        for (int tick = 1; tick <= x.toss(0, 0, 0, rise, 3); tick++) sides.append(x.up(0, 0, 0, rise, tick));
        return sides.toString();
    }

    private static void sidesAre(String call, String got, String want) {
        asked++;
        if (got.equals(want)) return;
        wrong++;
        System.out.println(promise + ": " + call + " answered " + got + ", due is " + want);
    }

    private static void ups() {
        promise = "10 up";
        String half = "turn 25 r>0";
        sidesAre("THROW", sides(half, 0, 9, 9, 9, 6), "111111");
        sidesAre("TURNING", sides(half, 1, 9, 9, 9, 6), "100110");
        sidesAre("TURNING at 49, 98, 47", sides("turn 49 r>0", 1, 0, 0, 0, 3), "101");
        sidesAre("TURNING at 50, 0", sides("turn 50 r>0", 1, 0, 0, 0, 2), "01");
        String leans = "turn 20 r>0;lean 9 t>1;lean 2 t>2;lean 49 t=5";
        // ANGLE 20, 40, 60, 80, 0, 20, 40, 60; LEAN 0, 9, 11, 11, 49, 11, 11, 11
        sidesAre("WOBBLING", sides(leans, 2, 0, 0, 0, 8), "11101111");
        sidesAre("WOBBLING, LEAN 9", sides("turn 59 r>0;lean 9 r>0", 2, 0, 0, 0, 1), "0");
        sidesAre("WOBBLING, LEAN 10", sides("turn 59 r>0;lean 10 r>0", 2, 0, 0, 0, 1), "1");
        sidesAre("WOBBLING, LEAN 49 at most", sides("turn 99 r>0;lean 50 r>0", 2, 0, 0, 0, 1), "0");
        sidesAre("WOBBLING, LEAN 49", sides("turn 98 r>0;lean 49 r>0", 2, 0, 0, 0, 1), "1");
        sidesAre("SEEMING", sides("turn 90 r>0;lean 4 t=1;lean 5 t=2", 6, 5, 0, 0, 3), "010");
        sidesAre("SEEMING, v 0", sides("turn 90 r>0", 6, 0, 0, 0, 3), "111");
        sidesAre("SEEMING as WOBBLING", sides("turn 55 r>0;lean 6 r>0", 6, 7, 0, 0, 2), "11");
        sidesAre("CAUGHT, v even", sides(half, 3, 8, 9, 9, 4), "1001");
        sidesAre("CAUGHT, v odd", sides(half, 3, 9, 9, 9, 4), "1000");
        sidesAre("CAUGHT, v odd, catch 1", sides("turn 25 r>0;catch 1", 3, 1, 9, 9, 4), "10010");
        sidesAre("FALLEN, v 0", sides(half, 4, 0, 9, 9, 4), "1001");
        sidesAre("FALLEN, v 1, BEND 9", sides(half, 4, 1, 9, 9, 4), "1001");
        sidesAre("FALLEN, v 1, BEND 8", sides(half, 4, 1, 9, 8, 4), "1000");
        sidesAre("FALLEN, v 2, BEND 3", sides(half, 4, 2, 9, 3, 4), "1000");
        sidesAre("FALLEN, v 2, BEND 4", sides(half, 4, 2, 9, 4, 4), "1001");
        sidesAre("FALLEN, v 4, BEND 3", sides(half, 4, 4, 9, 3, 4), "1001");
        sidesAre("SPUN, EDGE 5, v 5", sides(half, 5, 5, 5, 0, 3), "000");
        sidesAre("SPUN, EDGE 4, v 5", sides(half, 5, 5, 4, 9, 3), "111");
        HeadsByHair x = withCoinAndHand(0, 0, 1, 0);
        law(x, "turn 25 r>0;catch 2", 1, 0);
        due("tick 0", x.up(0, 0, 0, 3, 0), BAD);
        due("tick 5", x.up(0, 0, 0, 3, 5), 1);
        due("tick 6", x.up(0, 0, 0, 3, 6), BAD);
        due("tick max", x.up(0, 0, 0, 3, Integer.MAX_VALUE), BAD);
        due("rise 0", x.up(0, 0, 0, 0, 1), BAD);
        due("rise 41", x.up(0, 0, 0, 41, 1), BAD);
        due("rise 40, tick 42", x.up(0, 0, 0, 40, 42), 0);
        due("law 1", x.up(1, 0, 0, 41, 1), NONE);
        due("hand 1", x.up(0, 1, 0, 1, 0), NONE);
        due("coin 1", x.up(0, 0, 1, 1, 1), NONE);
    }

    private static void sames() {
        promise = "11 same";
        HeadsByHair x = withCoinAndHand(3, 0, 10, 3);
        x.hand(2, 4);
        x.hand(1, 0);
        law(x, "turn 50 t=1&r>11|t=1&r<8", 1, 0);
        law(x, "turn 50 t=1&r=1", 1, 0);
        law(x, "turn 50 r=0", 1, 0);
        law(x, "turn 50 r=0", 5, 3);
        // RISES 7 .. 13: the other side at 7, 12, 13
        due("4 of 7, above", x.same(0, 0, 0, 0), 4);
        due("4 of 7, below", x.same(0, 0, 0, 1), 7);
        // RISES 1 (-2, -1, 0, 1), 2 .. 6: four count as 1
        due("5 of 9, above", x.same(1, 1, 0, 0), 5);
        due("5 of 9, below", x.same(1, 1, 0, 1), 9);
        due("0 of 1, above", x.same(1, 2, 0, 0), 0);
        due("0 of 1, below", x.same(1, 2, 0, 1), 1);
        due("9 of 9, above", x.same(2, 1, 0, 0), 1);
        due("9 of 9, below", x.same(2, 1, 0, 1), 1);
        due("0 of 9, below", x.same(3, 1, 0, 1), 1);
        law(x, "turn 50 t=1&r>1&r<4", 1, 0);
        law(x, "turn 50 t=1&r>3", 1, 0);
        due("7 of 9, above", x.same(4, 1, 0, 0), 7);
        due("6 of 9, above", x.same(5, 1, 0, 0), 2);
        due("6 of 9, below", x.same(5, 1, 0, 1), 3);
        due("part 2", x.same(0, 0, 0, 2), NO);
        due("part -1", x.same(0, 0, 0, -1), NO);
        due("law 6", x.same(6, 0, 0, 0), NO);
        due("hand 3", x.same(0, 3, 0, 0), NO);
        due("coin 1", x.same(0, 0, 1, 0), NO);
    }

    private static void headses() {
        promise = "12 heads";
        HeadsByHair x = withCoinAndHand(3, 0, 10, 3);
        law(x, "turn 50 t=1&r>11|t=1&r<8", 1, 0);
        law(x, "turn 50 r=0", 5, 4);
        law(x, "turn 50 r=0", 5, 3);
        law(x, "turn 50 r=0", 0, 0);
        // n 4/7 and (100 - n) 3/7
        due("n 0, above", x.heads(0, 0, 0, 0, 0), 3);
        due("n 0, below", x.heads(0, 0, 0, 0, 1), 7);
        due("n 100, above", x.heads(0, 0, 0, 100, 0), 4);
        due("n 33, above", x.heads(0, 0, 0, 33, 0), 333);
        due("n 33, below", x.heads(0, 0, 0, 33, 1), 700);
        due("n 50, below", x.heads(0, 0, 0, 50, 1), 2);
        due("SPUN to heads, n 30, above", x.heads(1, 0, 0, 30, 0), 1);
        due("SPUN to heads, n 30, below", x.heads(1, 0, 0, 30, 1), 1);
        due("SPUN to tails, n 30, above", x.heads(2, 0, 0, 30, 0), 0);
        due("SPUN to tails, n 30, below", x.heads(2, 0, 0, 30, 1), 1);
        due("THROW, n 30, above", x.heads(3, 0, 0, 30, 0), 3);
        due("THROW, n 30, below", x.heads(3, 0, 0, 30, 1), 10);
        due("n 101", x.heads(0, 0, 0, 101, 0), NO);
        due("n -1", x.heads(0, 0, 0, -1, 0), NO);
        due("part 2", x.heads(0, 0, 0, 1, 2), NO);
        due("law 4", x.heads(4, 0, 0, 1, 0), NO);
        due("hand 1", x.heads(0, 1, 0, 1, 0), NO);
        due("coin 1", x.heads(0, 0, 1, 1, 0), NO);
    }

    private static void steadies() {
        promise = "13 steady";
        HeadsByHair x = withCoinAndHand(3, 0, 10, 3);
        law(x, "turn 50 t=1&r>11&r<20", 1, 0);
        law(x, "turn 50 t=1&r=40", 1, 0);
        law(x, "turn 50 r<0", 1, 0);
        law(x, "turn 50 r<0", 5, 0);
        law(x, "turn 50 t=1&r=1", 1, 0);
        due("STEADY", x.steady(0, 0, 0, 0), 32);
        due("EDGE OF", x.steady(0, 0, 0, 1), 12);
        due("STEADY, but at 40", x.steady(1, 0, 0, 0), 39);
        due("EDGE OF, at 40", x.steady(1, 0, 0, 1), 40);
        due("STEADY, always", x.steady(2, 0, 0, 0), 40);
        due("EDGE OF, none", x.steady(2, 0, 0, 1), -5);
        due("STEADY, never", x.steady(3, 0, 0, 0), 0);
        due("EDGE OF, none", x.steady(3, 0, 0, 1), -5);
        due("EDGE OF, at 2", x.steady(4, 0, 0, 1), 2);
        due("what 2", x.steady(0, 0, 0, 2), NONE);
        due("what -1", x.steady(0, 0, 0, -1), NONE);
        due("law 5", x.steady(5, 0, 0, 0), NONE);
        due("hand 1", x.steady(0, 1, 0, 0), NONE);
        due("coin 1", x.steady(0, 0, 1, 0), NONE);
    }

    private static void differs() {
        promise = "14 differ";
        HeadsByHair x = withCoinAndHand(0, 0, 1, 0);
        for (int k = 0; k < 4; k++) x.hand(1, 0);
        due("none", x.differ(), -5);
        x.counts(2, 0, 3, 2);
        due("one", x.differ(), -5);
        x.counts(4, 0, 7, 3);
        due("666 and 428", x.differ(), 238);
        x.counts(1, 0, 10, 5);
        due("500 between", x.differ(), 238);
        x.counts(0, 0, 2, 2);
        due("1000 and 428", x.differ(), 572);
        x.counts(3, 0, 1, 0);
        due("1000 and 0", x.differ(), 1000);
        for (int k = 0; k < 4; k++) x.counts(k, 0, 0, 0);
        due("one again", x.differ(), -5);
        x.counts(0, 0, 7, 3);
        due("two alike", x.differ(), 0);
        x.hand(1, 0);
        x.counts(5, 0, 4, 1);
        due("428 and 250, six HANDS", x.differ(), 178);
        x.counts(4, 0, 0, 0);
        due("428 and 250, the first and the sixth", x.differ(), 178);
        for (int k = 1; k < 6; k++) x.coin(0, 0);
        x.counts(5, 5, 4, 4);
        due("428 and 625, six COINS", x.differ(), 197);
        due("of(5, 3), six COINS", x.of(5, 3), 8);
        due("of(4, 3), six COINS", x.of(4, 3), 0);
    }

    private static void fars() {
        promise = "15 far";
        HeadsByHair x = withCoinAndHand(0, 0, 1, 0);
        x.coin(0, 0);
        due("0 THROWS, FAR above", x.far(0, 0, 0), 1);
        due("0 THROWS, FAR below", x.far(0, 0, 1), 1);
        due("0 THROWS, AT LEAST above", x.far(0, 1, 0), 1);
        x.counts(0, 0, 4, 1);
        x.counts(0, 1, 2, 2);
        due("3 of 6, FAR above", x.far(0, 0, 0), 5);
        due("3 of 6, FAR below", x.far(0, 0, 1), 16);
        due("3 of 6, AT LEAST above", x.far(0, 1, 0), 21);
        due("3 of 6, AT LEAST below", x.far(0, 1, 1), 32);
        x.counts(0, 0, 28, 13);
        due("15 of 30, FAR above", x.far(0, 0, 0), 9694845);
        due("15 of 30, FAR below", x.far(0, 0, 1), 67108864);
        x.counts(0, 0, 28, 28);
        due("30 of 30, AT LEAST above", x.far(0, 1, 0), 1);
        due("30 of 30, AT LEAST below", x.far(0, 1, 1), 1073741824);
        due("what 2", x.far(0, 2, 0), NO);
        due("what -1", x.far(0, -1, 0), NO);
        due("part 2", x.far(0, 0, 2), NO);
        due("part -1", x.far(0, 0, -1), NO);
        due("hand 1", x.far(1, 0, 0), NO);
        x.counts(0, 0, 29, 28);
        due("31 THROWS", x.far(0, 0, 0), NO);
    }

    private static void needs() {
        promise = "16 need";
        HeadsByHair x = new HeadsByHair();
        due("need(0, 0, 100)", x.need(0, 0, 100), 10);
        due("need(100, 100, 50)", x.need(100, 100, 50), 11);
        due("need(100, 100, 49)", x.need(100, 100, 49), 22);
        due("need(100, 100, 12)", x.need(100, 100, 12), 44);
        due("need(100, 100, 13)", x.need(100, 100, 13), 33);
        // 80 of 100 twice of two: 64 of 100; an even one: 25 of 100
        due("need(80, 64, 25)", x.need(80, 64, 25), 22);
        due("need(80, 65, 25)", x.need(80, 65, 25), 54);
        // 83 of 100 twice of two: 68.89 of 100
        due("need(83, 68, 25)", x.need(83, 68, 25), 22);
        due("need(83, 69, 25)", x.need(83, 69, 25), 54);
        // 7 or more of 8, an even one: 9 of 256
        due("need(90, 80, 4)", x.need(90, 80, 4), 87);
        due("need(90, 82, 3)", x.need(90, 82, 3), -5);
        due("need(0, 0, 0)", x.need(0, 0, 0), -5);
        due("need(100, 100, 1)", x.need(100, 100, 1), 77);
        due("need(100, 1, 0)", x.need(100, 1, 0), -5);
        due("need(101, 0, 0)", x.need(101, 0, 0), BAD);
        due("need(0, 101, 0)", x.need(0, 101, 0), BAD);
        due("need(0, 0, 101)", x.need(0, 0, 101), BAD);
        due("need(-1, 0, 0)", x.need(-1, 0, 0), BAD);
        due("need(0, -1, 0)", x.need(0, -1, 0), BAD);
        due("need(0, 0, -1)", x.need(0, 0, -1), BAD);
    }

    private static void rows() {
        promise = "17 row";
        HeadsByHair x = new HeadsByHair();
        due("row(-1), empty", x.row(-1), 0);
        due("row(-2)", x.row(-2), BAD);
        due("row(2)", x.row(2), BAD);
        for (int k = 1; k <= 16; k++) due("row, " + k, x.row(k % 2), k);
        due("row, the 17th", x.row(0), FULL);
        due("row(2), the 17th", x.row(2), BAD);
        due("count(3)", x.count(3), 16);
        due("runs(0)", x.runs(0), 16);
        due("row(-1), full", x.row(-1), 0);
        due("count(3)", x.count(3), 0);
        due("row(1)", x.row(1), 1);
    }

    private static void fillRow(HeadsByHair x, String sides) {
        x.row(-1);
        for (int k = 0; k < sides.length(); k++) x.row(sides.charAt(k) - '0');
    }

    private static void runsAre(HeadsByHair x, String sides, int runs, int longest) {
        fillRow(x, sides);
        due("RUNS of " + sides, x.runs(0), runs);
        due("LONGEST of " + sides, x.runs(1), longest);
    }

    private static void runs() {
        promise = "18 runs";
        HeadsByHair x = new HeadsByHair();
        runsAre(x, "", 0, 0);
        runsAre(x, "0", 1, 1);
        runsAre(x, "1", 1, 1);
        runsAre(x, "0000", 1, 4);
        runsAre(x, "0111001", 4, 3);
        runsAre(x, "1110", 2, 3);
        runsAre(x, "1000", 2, 3);
        runsAre(x, "1111111111111111", 1, 16);
        due("runs(2)", x.runs(2), NONE);
        due("runs(-1)", x.runs(-1), NONE);
    }

    private static void oddsAre(HeadsByHair x, String sides, int above, int below) {
        fillRow(x, sides);
        due("ODDS of " + sides + ", above", x.made(0), above);
        due("ODDS of " + sides + ", below", x.made(1), below);
    }

    private static void made() {
        promise = "19 made";
        HeadsByHair x = new HeadsByHair();
        oddsAre(x, "", 1, 1);
        oddsAre(x, "1", 1, 1);
        oddsAre(x, "11", 1, 2);
        oddsAre(x, "10", 1, 1);
        oddsAre(x, "1101", 7, 8);
        oddsAre(x, "110100", 13, 16);
        oddsAre(x, "0000000000000000", 1, 32768);
        oddsAre(x, "0101010101010101", 1, 1);
        oddsAre(x, "0101010101010100", 32767, 32768);
        due("made(2)", x.made(2), NONE);
        due("made(-1)", x.made(-1), NONE);
    }

    private static void worths() {
        promise = "20 worth";
        HeadsByHair x = withCoinAndHand(3, 0, 10, 3);
        law(x, "turn 50 t=1&r>11|t=1&r<8", 1, 0);
        law(x, "turn 50 t=1&r>8", 1, 0);
        law(x, "turn 50 r=0", 5, 3);
        due("4 of 7, n 0", x.worth(0, 0, 0, 0), 142);
        due("4 of 7, n 50", x.worth(0, 0, 0, 50), 0);
        due("4 of 7, n 70", x.worth(0, 0, 0, 70), -57);
        due("4 of 7, n 100", x.worth(0, 0, 0, 100), -142);
        due("2 of 7, n 0", x.worth(1, 0, 0, 0), 428);
        due("2 of 7, n 10", x.worth(1, 0, 0, 10), 342);
        due("0 of 7, n 0", x.worth(2, 0, 0, 0), 1000);
        due("0 of 7, n 100", x.worth(2, 0, 0, 100), -1000);
        due("n 101", x.worth(0, 0, 0, 101), -1002);
        due("n -1", x.worth(0, 0, 0, -1), -1002);
        due("law 3", x.worth(3, 0, 0, 101), -1001);
        due("hand 1", x.worth(0, 1, 0, 0), -1001);
        due("coin 1", x.worth(0, 0, 1, 0), -1001);
    }

    private static void fairs() {
        promise = "21 fair";
        HeadsByHair x = new HeadsByHair();
        due("fair(50, 0)", x.fair(50, 0), 4);
        due("fair(50, 1)", x.fair(50, 1), 1);
        due("fair(1, 0)", x.fair(1, 0), 10000);
        due("fair(1, 1)", x.fair(1, 1), 99);
        due("fair(99, 1)", x.fair(99, 1), 99);
        due("fair(20, 0)", x.fair(20, 0), 25);
        due("fair(20, 1)", x.fair(20, 1), 4);
        due("fair(0, 0)", x.fair(0, 0), BAD);
        due("fair(100, 0)", x.fair(100, 0), BAD);
        due("fair(-5, 0)", x.fair(-5, 0), BAD);
        due("fair(50, 2)", x.fair(50, 2), NONE);
        due("fair(50, -1)", x.fair(50, -1), NONE);
        due("fair(0, 2)", x.fair(0, 2), NONE);
    }

    private static void learning() {
        promise = "22 learns";
        HeadsByHair x = withCoinAndHand(0, 0, 10, 7);
        x.coin(0, 0);
        due("no THROWS, RISE", x.learns(0, 9, 9, 0), 10);
        x.counts(0, 0, 99, 0);
        due("99 THROWS, RISE", x.learns(0, 9, 9, 0), 10);
        x.counts(0, 1, 201, 0);
        due("300 THROWS, RISE", x.learns(0, 4, 2, 0), 22);
        due("300 THROWS, WANDERING", x.learns(0, 4, 2, 1), 1);
        due("300 THROWS, RISE 30 at most", x.learns(0, 9, 2, 0), 30);
        due("300 THROWS, WANDERING 0 at least", x.learns(0, 9, 3, 1), 0);
        due("by 0, RISE", x.learns(0, 0, 0, 0), 10);
        due("by 0, WANDERING", x.learns(0, 0, 0, 1), 7);
        due("of(0, 0), unchanged", x.of(0, 0), 10);
        due("of(0, 1), unchanged", x.of(0, 1), 7);
        due("n 10", x.learns(0, 10, 0, 0), BAD);
        due("n -1", x.learns(0, -1, 0, 0), BAD);
        due("m 10", x.learns(0, 0, 10, 0), BAD);
        due("m -1", x.learns(0, 0, -1, 0), BAD);
        due("what 2", x.learns(0, 10, 0, 2), NONE);
        due("what -1", x.learns(0, 0, 0, -1), NONE);
        due("hand 1", x.learns(1, 10, 0, 0), NONE);
    }

    private static void actIs(HeadsByHair x, int law, int act, int want, int... bodies) {
        due("act(" + law + ", " + act + ", 5)", x.act(law, act, 5), want);
        due("count(5)", x.count(5), bodies.length);
        for (int k = 0; k < bodies.length; k++) due("trace(" + k + ")", x.trace(k), bodies[k]);
        due("trace behind the last", x.trace(bodies.length), NONE);
    }

    private static void acts() {
        promise = "23 act, 24 trace";
        HeadsByHair x = new HeadsByHair();
        law(x, "catch 1", 0, 9);
        for (int kind = 0; kind < 7; kind++) law(x, "catch 1", kind, 3);
        // LAW k + 1 is of KIND k; with x 5 and v 3
        actIs(x, 0, 1, -4, 2, 1);
        actIs(x, 1, 0, 6, 1);
        actIs(x, 1, 1, 3, 2, 1);
        actIs(x, 1, 2, 6, 3, 2, 1);
        actIs(x, 2, 0, 17, 11, 1);
        actIs(x, 2, 1, 14, 2, 11, 1);
        actIs(x, 2, 2, 28, 3, 2, 11, 1);
        actIs(x, 3, 0, 18, 11, 1);
        actIs(x, 3, 1, 15, 2, 11, 1);
        actIs(x, 3, 2, 33, 41, 3, 2, 11, 1, 11, 1);
        actIs(x, 4, 0, 9, 1);
        actIs(x, 4, 1, -6, 21, 2, 1);
        actIs(x, 4, 2, -12, 3, 21, 2, 1);
        actIs(x, 5, 0, 10, 1);
        actIs(x, 5, 1, -4, 61, 21, 2, 1);
        actIs(x, 5, 2, -8, 3, 61, 21, 2, 1);
        actIs(x, 6, 0, 11, 1);
        actIs(x, 6, 1, 8, 2, 1);
        actIs(x, 6, 2, 23, 31, 3, 2, 1);
        actIs(x, 7, 0, 17, 51, 11, 1);
        actIs(x, 7, 1, 14, 2, 51, 11, 1);
        // 4 * 3 + 7 is 19, and 19 ^ 7 is 20; less 3, twice: 34; 6 + 7 is 13, and 13 ^ 7 is 10
        actIs(x, 7, 2, 44, 41, 3, 2, 51, 11, 1, 51, 11, 1);
        // 6 + 6 less 3, twice: 18
        due("act(6, 2, 6)", x.act(6, 2, 6), 18 ^ 7);
        due("trace(-1)", x.trace(-1), NONE);
        due("trace(20)", x.trace(20), NONE);
        due("act(1, 0, max)", x.act(1, 0, Integer.MAX_VALUE), Integer.MIN_VALUE);
        due("act(2, 0, max)", x.act(2, 0, Integer.MAX_VALUE), Integer.MAX_VALUE);
        due("act(1, 2, max)", x.act(1, 2, Integer.MAX_VALUE), -6);
        noAct(x, 8, 0);
        noAct(x, -1, 0);
        noAct(x, 1, 3);
        noAct(x, 1, -1);
    }

    private static void noAct(HeadsByHair x, int law, int act) {
        x.act(1, 0, 1);
        due("trace(0)", x.trace(0), 1);
        due("act(" + law + ", " + act + ", 1)", x.act(law, act, 1), 0);
        due("count(5)", x.count(5), 0);
        due("trace(0)", x.trace(0), NONE);
    }

    private static void taken() {
        promise = "25 as";
        HeadsByHair x = new HeadsByHair();
        for (int kind = 0; kind < 7; kind++) law(x, "catch 1", kind, kind + 2);
        String[] kindsAbove = {"0", "01", "012", "03", "034", "05", "0126"};
        for (int law = 0; law < 7; law++) {
            for (int k = 0; k < 7; k++) {
                boolean isOne = kindsAbove[law].indexOf('0' + k) >= 0;
                due("as(" + law + ", " + k + ")", x.as(law, k), isOne ? law + 2 : -6);
            }
        }
        due("as(7, 0)", x.as(7, 0), NONE);
        due("as(-1, 0)", x.as(-1, 0), NONE);
        due("as(0, 7)", x.as(0, 7), NONE);
        due("as(0, -1)", x.as(0, -1), NONE);
    }

    private static void images() {
        promise = "26 image, 27 undo";
        HeadsByHair x = withCoinAndHand(4, 1, 8, 2);
        due("undo(), no image", x.undo(), STATE);
        law(x, "turn 50 t=1&e=4;catch 2", 1, 3);
        x.counts(0, 0, 10, 4);
        feed(x, "catch ");
        fillRow(x, "011");
        due("image()", x.image(), 1);
        for (int round = 0; round < 2; round++) {
            x.coin(5, 2);
            x.hand(9, 3);
            x.hand(10, 4);
            x.counts(0, 0, 20, 20);
            x.counts(2, 1, 7, 7);
            feed(x, "12");
            due("law behind the image", x.law(0, 9), 1);
            fillRow(x, "10101");
            x.act(0, 1, 5);
            due("undo()", x.undo(), 1);
            due("count(0)", x.count(0), 1);
            due("count(1)", x.count(1), 1);
            due("count(2)", x.count(2), 1);
            due("count(3)", x.count(3), 3);
            due("count(4)", x.count(4), 6);
            due("count(5), no part of it", x.count(5), 3);
            due("trace(0), no part of it", x.trace(0), 2);
            due("of(0, 0)", x.of(0, 0), 8);
            due("of(0, 1)", x.of(0, 1), 2);
            due("of(0, 3)", x.of(0, 3), 10);
            due("of(0, 4)", x.of(0, 4), 4);
            due("runs(0)", x.runs(0), 2);
            due("told(1, 0)", x.told(1, 0), NONE);
            due("toss of the LAW and COIN", x.toss(0, 0, 0, 2, 0), 0);
        }
        due("hand anew", x.hand(30, 0), 1);
        due("coin anew", x.coin(0, 0), 1);
        due("of(1, 3), anew", x.of(1, 3), 0);
        due("counts(1, 1, 1, 1), anew", x.counts(1, 1, 1, 1), 0);
        feed(x, "7");
        due("law of the tape that was kept", x.law(0, 0), 1);
        due("told(1, 2)", x.told(1, 2), 7);
        due("image(), again", x.image(), 2);
        x.hand(1, 1);
        due("undo(), again", x.undo(), 2);
        due("counts(1, 1, 2, 2)", x.counts(1, 1, 2, 2), 1);
        due("undo(), at once", x.undo(), 2);
        due("counts(1, 1, 2, 2), as before", x.counts(1, 1, 2, 2), 1);
        keptTape();
        keptRow();
        HeadsByHair y = new HeadsByHair();
        due("image() of nothing", y.image(), 0);
        y.hand(1, 1);
        y.coin(1, 1);
        due("undo() to nothing", y.undo(), 0);
        due("count(0)", y.count(0), 0);
    }

    /** Bytes that came over those of THE IMAGE since do not stay. */
    private static void keptTape() {
        HeadsByHair x = new HeadsByHair();
        feed(x, "catch 4");
        x.image();
        due("law", x.law(1, 2), 0);
        feed(x, "skip r<12");
        x.undo();
        due("law of the tape that was written over", x.law(1, 2), 0);
        due("told(0, 2)", x.told(0, 2), 4);
        x.undo();
        due("law once more", x.law(1, 2), 0);
        due("told(0, 2)", x.told(0, 2), 4);
    }

    private static void keptRow() {
        HeadsByHair x = new HeadsByHair();
        fillRow(x, "0101");
        x.image();
        fillRow(x, "1111");
        x.undo();
        due("RUNS of the ROW that was written over", x.runs(0), 4);
        fillRow(x, "000000");
        x.undo();
        due("LONGEST of it", x.runs(1), 1);
    }

    private static void counting() {
        promise = "28 count";
        HeadsByHair x = new HeadsByHair();
        x.coin(1, 1);
        for (int k = 0; k < 2; k++) x.hand(1, 1);
        for (int k = 0; k < 3; k++) law(x, "catch 1", 0, 0);
        fillRow(x, "0000");
        feed(x, "catch");
        x.act(2, 2, 0);
        int[] want = {1, 2, 3, 4, 5, 3};
        for (int what = 0; what < 6; what++) due("count(" + what + ")", x.count(what), want[what]);
        due("count(6)", x.count(6), NONE);
        due("count(-1)", x.count(-1), NONE);
    }

    public static void main(String[] args) {
        newObject();
        coins();
        hands();
        ofHand();
        counts();
        feeds();
        laws();
        faults();
        told();
        tests();
        tosses();
        ups();
        sames();
        headses();
        steadies();
        differs();
        fars();
        needs();
        rows();
        runs();
        made();
        worths();
        fairs();
        learning();
        acts();
        taken();
        images();
        counting();
        System.out.println("PromisesTest: " + asked + " answers, " + wrong + " not as due");
        if (wrong != 0) System.exit(1);
    }
}
