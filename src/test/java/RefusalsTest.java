import java.util.ArrayList;
import java.util.List;

/**
 * "REFUSALS, of several the first one told. They change nothing.": each call with each argument just
 * outside on either side and far off, on a new object, one in use and a full one; behind each refusal
 * the object is looked through beside a twin that was not asked.
 */
public final class RefusalsTest {
    private static final int NONE = Check.NONE, BAD = Check.BAD, STATE = Check.STATE, FULL = Check.FULL;
    private static final long NO = Check.NO;

    interface Call {
        long on(HeadsByHair x);
    }

    interface CallWith {
        long on(HeadsByHair x, int argument);
    }

    // ---- objects to ask

    private static final int NEW = 0, USED = 1, FILLED = 2, NO_IMAGE = 3;

    private static HeadsByHair make(int which) {
        if (which == USED) return used();
        if (which == FILLED) return filled();
        return which == NO_IMAGE ? withoutImage() : new HeadsByHair();
    }

    /** 2 COINS, 3 HANDS, 4 LAWS, 5 sides, 8 bytes that are a LAW, 7 bodies; THE IMAGE is another state. */
    private static HeadsByHair used() {
        HeadsByHair x = new HeadsByHair();
        x.coin(3, 4);
        x.hand(11, 2);
        x.counts(0, 0, 9, 5);
        Check.law(x, Check.EDGE_LAW, 1, 0);
        Check.law(x, Check.BEND_LAW, 1, 0);
        Check.fillRow(x, "0110");
        Check.feed(x, "catch 3");
        x.image();
        x.law(2, 6);
        goOn(x);
        return x;
    }

    private static void goOn(HeadsByHair x) {
        x.coin(7, 1);
        x.hand(2, 0);
        x.hand(30, 9);
        x.counts(0, 0, 8, 1);
        x.counts(1, 1, 14, 13);
        Check.law(x, "turn 30 t>0;lean 5 t=2;catch 2", 6, 9);
        Check.fillRow(x, "10011");
        Check.feed(x, "catch 12");
        x.act(2, 2, 77);
    }

    private static HeadsByHair withoutImage() {
        HeadsByHair x = new HeadsByHair();
        x.coin(3, 4);
        Check.law(x, Check.EDGE_LAW, 1, 0);
        Check.law(x, Check.BEND_LAW, 1, 0);
        Check.law(x, "catch 3", 2, 6);
        x.hand(11, 2);
        goOn(x);
        return x;
    }

    /** 6 COINS, 6 HANDS, 8 LAWS, 16 sides, 120 bytes, 9 bodies; THE IMAGE lacks some of them. */
    private static HeadsByHair filled() {
        HeadsByHair x = new HeadsByHair();
        Check.law(x, Check.EDGE_LAW, 1, 0);
        Check.law(x, Check.BEND_LAW, 1, 0);
        for (int k = 0; k < 4; k++) x.coin(2 * k, 9 - k);
        for (int k = 0; k < 5; k++) x.hand(30 - 6 * k, k);
        x.counts(4, 3, 2, 1);
        Check.fillRow(x, "01");
        x.image();
        for (int k = 4; k < 6; k++) x.coin(k, k);
        x.hand(9, 9);
        for (int hand = 0; hand < 6; hand++) {
            for (int coin = 0; coin < 6; coin++) x.counts(hand, coin, hand + 2 * coin, coin);
        }
        for (int k = 2; k < 8; k++) Check.law(x, "turn 30 t>0;catch 9", k - 1, k);
        Check.fillRow(x, "0110011101001011");
        Check.feed(x, "catch 12" + "x".repeat(112));
        x.act(7, 2, -8);
        return x;
    }

    // ---- all that can be seen of an object

    /** What can be asked without a change. */
    private static void ask(HeadsByHair x, List<String> seen) {
        int coins = x.count(0), hands = x.count(1), laws = x.count(2);
        for (int what = 0; what < 5; what++) seen.add("count(" + what + ") " + x.count(what));
        for (int what = 0; what < 2; what++) seen.add("runs(" + what + ") " + x.runs(what) + ", made " + x.made(what));
        seen.add("differ() " + x.differ());
        for (int hand = 0; hand < hands; hand++) {
            for (int what = 0; what < 5; what++) seen.add("of(" + hand + ", " + what + ") " + x.of(hand, what));
        }
        for (int law = 0; law < laws; law++) {
            for (int what = 0; what < 3; what++) seen.add("told(" + law + ", " + what + ") " + x.told(law, what));
            seen.add("toss(" + law + ", 0, 0, 5, 1) " + x.toss(law, 0, 0, 5, 1));
        }
        for (int coin = 0; coin < coins; coin++) {
            for (int law = 0; law < 2; law++) seen.add("COIN " + coin + " " + x.toss(law, 0, coin, 9, 1));
        }
    }

    /** What shows only by a change: COUNTS one by one, the sides of the ROW, the bytes of THE TAPE. */
    private static void takeApart(HeadsByHair x, List<String> seen) {
        int coins = x.count(0), hands = x.count(1);
        for (int hand = 0; hand < hands; hand++) {
            for (int coin = 0; coin < coins; coin++) {
                seen.add("COUNTS " + hand + " " + coin + ": " + x.counts(hand, coin, 0, 0));
            }
        }
        for (int k = 0; k < 2; k++) seen.add("row(1) " + x.row(1) + " " + x.runs(0) + " " + x.runs(1));
        int law = x.law(0, 0);
        seen.add("law of THE TAPE " + law + ", CATCH " + x.told(law, 2));
    }

    private static List<String> look(HeadsByHair x, boolean isTraceToo) {
        List<String> seen = new ArrayList<>();
        if (isTraceToo) {
            seen.add("count(5) " + x.count(5));
            for (int i = 0; i < 10; i++) seen.add("trace(" + i + ") " + x.trace(i));
        }
        ask(x, seen);
        takeApart(x, seen);
        seen.add("undo() " + x.undo());
        ask(x, seen);
        takeApart(x, seen);
        return seen;
    }

    // ---- asking

    private static void twins(String call, HeadsByHair asked, HeadsByHair twin, boolean isTraceToo) {
        List<String> got = look(asked, isTraceToo), want = look(twin, isTraceToo);
        Check.due("behind " + call + ", things seen", got.size(), want.size());
        for (int k = 0; k < Math.min(got.size(), want.size()); k++) {
            if (!got.get(k).equals(want.get(k))) {
                Check.due("behind " + call, got.get(k), want.get(k));
                return;
            }
        }
    }

    private static void refused(String call, int which, Call it, long want) {
        HeadsByHair x = make(which);
        String name = call + " on object " + which;
        Check.due(name, it.on(x), want);
        Check.due(name + ", again", it.on(x), want);
        twins(name, x, make(which), true);
    }

    /** The first outside on either side, and the farthest. */
    private static void outside(String call, int which, CallWith it, int least, int most, long want) {
        int[] some = {least - 1, most + 1, Check.MIN, Check.MAX, least - 256, most + 256};
        for (int argument : some) refused(call + " " + argument, which, x -> it.on(x, argument), want);
    }

    private static void everywhere(String call, CallWith it, int least, int most, long want) {
        for (int which = NEW; which <= NO_IMAGE; which++) outside(call, which, it, least, most, want);
    }

    private static void whereUsed(String call, CallWith it, int least, int most, long want) {
        for (int which = USED; which <= NO_IMAGE; which++) outside(call, which, it, least, most, want);
    }

    private static void noSuchCoin(String call, CallWith it, long want) {
        outside(call, USED, it, 0, 1, want);
        outside(call, FILLED, it, 0, 5, want);
    }

    private static void noSuchHand(String call, CallWith it, long want) {
        outside(call, NEW, it, 0, -1, want);
        outside(call, USED, it, 0, 2, want);
        outside(call, FILLED, it, 0, 5, want);
    }

    private static void noSuchLaw(String call, CallWith it, long want) {
        outside(call, NEW, it, 0, -1, want);
        outside(call, USED, it, 0, 3, want);
        outside(call, FILLED, it, 0, 7, want);
    }

    // ---- one argument outside

    private static void coinsAndHands() {
        Check.sentence("coin: BAD");
        everywhere("coin, EDGE", (x, e) -> x.coin(e, 0), 0, 9, BAD);
        everywhere("coin, BEND", (x, b) -> x.coin(9, b), 0, 9, BAD);
        Check.sentence("hand: BAD");
        everywhere("hand, RISE", (x, r) -> x.hand(r, 0), 1, 30, BAD);
        everywhere("hand, WANDERING", (x, w) -> x.hand(30, w), 0, 9, BAD);
        Check.sentence("coin, hand: FULL");
        refused("coin, the 7th", FILLED, x -> x.coin(0, 0), FULL);
        refused("hand, the 7th", FILLED, x -> x.hand(1, 0), FULL);
        Check.sentence("of: NONE");
        noSuchHand("of, HAND", (x, h) -> x.of(h, 0), NONE);
        whereUsed("of, what", (x, what) -> x.of(0, what), 0, 4, NONE);
        Check.sentence("counts: NONE; BAD");
        noSuchHand("counts, HAND", (x, h) -> x.counts(h, 0, 1, 1), NONE);
        noSuchCoin("counts, COIN", (x, c) -> x.counts(0, c, 1, 1), NONE);
        whereUsed("counts, n", (x, n) -> x.counts(0, 0, n, 0), 0, 999, BAD);
        whereUsed("counts, s of 0", (x, s) -> x.counts(0, 0, 0, s), 0, 0, BAD);
        whereUsed("counts, s of 10", (x, s) -> x.counts(0, 1, 10, s), 0, 10, BAD);
        whereUsed("counts, s of 999", (x, s) -> x.counts(0, 1, 999, s), 0, 999, BAD);
    }

    private static void laws() {
        Check.sentence("feed: BAD: n not 1 .. 8; FULL");
        everywhere("feed, n", (x, n) -> x.feed(0x63617463682031L, n), 1, 8, BAD);
        refused("feed of 1 into 120", FILLED, x -> x.feed(0x31, 1), FULL);
        refused("feed of 8 into 120", FILLED, x -> x.feed(-1L, 8), FULL);
        Check.sentence("law: NONE: kind; BAD: v; FULL (THE TAPE stays with all three)");
        everywhere("law, kind", (x, kind) -> x.law(kind, 0), 0, 6, NONE);
        everywhere("law, v", (x, v) -> x.law(6, v), 0, 9, BAD);
        refused("law, the 9th", FILLED, x -> x.law(0, 0), FULL);
        Check.sentence("told: NONE");
        noSuchLaw("told, LAW", (x, law) -> x.told(law, 0), NONE);
        whereUsed("told, what", (x, what) -> x.told(0, what), 0, 2, NONE);
    }

    private static void tosses() {
        Check.sentence("toss: NONE; BAD");
        noSuchLaw("toss, LAW", (x, law) -> x.toss(law, 0, 0, 1, 0), NONE);
        noSuchHand("toss, HAND", (x, h) -> x.toss(0, h, 0, 1, 0), NONE);
        noSuchCoin("toss, COIN", (x, c) -> x.toss(0, 0, c, 1, 0), NONE);
        whereUsed("toss, what", (x, what) -> x.toss(0, 0, 0, 1, what), 0, 3, NONE);
        whereUsed("toss, rise", (x, r) -> x.toss(0, 0, 0, r, 3), 1, 40, BAD);
        Check.sentence("up: NONE; BAD: rise, tick");
        noSuchLaw("up, LAW", (x, law) -> x.up(law, 0, 0, 1, 1), NONE);
        noSuchHand("up, HAND", (x, h) -> x.up(0, h, 0, 1, 1), NONE);
        noSuchCoin("up, COIN", (x, c) -> x.up(0, 0, c, 1, 1), NONE);
        whereUsed("up, rise", (x, r) -> x.up(0, 0, 0, r, 1), 1, 40, BAD);
        whereUsed("up, tick of 1", (x, t) -> x.up(0, 0, 0, 1, t), 1, 1, BAD);
        whereUsed("up, tick of 40", (x, t) -> x.up(0, 0, 0, 40, t), 1, 40, BAD);
        outside("up, tick of 7 and 2", USED, (x, t) -> x.up(3, 0, 0, 7, t), 1, 9, BAD);
        outside("up, tick of 40 and 9", FILLED, (x, t) -> x.up(7, 5, 5, 40, t), 1, 49, BAD);
    }

    private static void odds() {
        Check.sentence("same: NO");
        noSuchLaw("same, LAW", (x, law) -> x.same(law, 0, 0, 0), NO);
        noSuchHand("same, HAND", (x, h) -> x.same(0, h, 0, 0), NO);
        noSuchCoin("same, COIN", (x, c) -> x.same(0, 0, c, 0), NO);
        whereUsed("same, part", (x, part) -> x.same(0, 0, 0, part), 0, 1, NO);
        Check.sentence("heads: NO");
        noSuchLaw("heads, LAW", (x, law) -> x.heads(law, 0, 0, 50, 0), NO);
        noSuchHand("heads, HAND", (x, h) -> x.heads(0, h, 0, 50, 0), NO);
        noSuchCoin("heads, COIN", (x, c) -> x.heads(0, 0, c, 50, 0), NO);
        whereUsed("heads, n", (x, n) -> x.heads(0, 0, 0, n, 0), 0, 100, NO);
        whereUsed("heads, part", (x, part) -> x.heads(0, 0, 0, 50, part), 0, 1, NO);
        Check.sentence("steady: NONE");
        noSuchLaw("steady, LAW", (x, law) -> x.steady(law, 0, 0, 0), NONE);
        noSuchHand("steady, HAND", (x, h) -> x.steady(0, h, 0, 0), NONE);
        noSuchCoin("steady, COIN", (x, c) -> x.steady(0, 0, c, 0), NONE);
        whereUsed("steady, what", (x, what) -> x.steady(0, 0, 0, what), 0, 1, NONE);
    }

    private static void countsAndRows() {
        Check.sentence("far: NO: also with more than 30 THROWS");
        noSuchHand("far, HAND", (x, h) -> x.far(h, 0, 0), NO);
        whereUsed("far, what", (x, what) -> x.far(0, what, 0), 0, 1, NO);
        whereUsed("far, part", (x, part) -> x.far(0, 0, part), 0, 1, NO);
        // HAND 1 of the full one has 1 + 3 + 5 + 7 + 9 + 11 THROWS.
        refused("far, 36 THROWS", FILLED, x -> x.far(1, 0, 0), NO);
        refused("far, 36 THROWS, AT LEAST", FILLED, x -> x.far(1, 1, 1), NO);
        Check.sentence("need: BAD: p, a, b (0 .. 100)");
        everywhere("need, p", (x, p) -> x.need(p, 50, 50), 0, 100, BAD);
        everywhere("need, a", (x, a) -> x.need(50, a, 50), 0, 100, BAD);
        everywhere("need, b", (x, b) -> x.need(50, 50, b), 0, 100, BAD);
        Check.sentence("row: BAD; FULL: 16");
        everywhere("row, side", (x, side) -> x.row(side), -1, 1, BAD);
        refused("row(0), the 17th", FILLED, x -> x.row(0), FULL);
        refused("row(1), the 17th", FILLED, x -> x.row(1), FULL);
        Check.sentence("runs: NONE");
        everywhere("runs, what", (x, what) -> x.runs(what), 0, 1, NONE);
        Check.sentence("made: NONE: part");
        everywhere("made, part", (x, part) -> x.made(part), 0, 1, NONE);
    }

    private static void bets() {
        Check.sentence("worth: -1001: NONE; -1002: BAD");
        noSuchLaw("worth, LAW", (x, law) -> x.worth(law, 0, 0, 0), -1001);
        noSuchHand("worth, HAND", (x, h) -> x.worth(0, h, 0, 0), -1001);
        noSuchCoin("worth, COIN", (x, c) -> x.worth(0, 0, c, 0), -1001);
        whereUsed("worth, n", (x, n) -> x.worth(0, 0, 0, n), 0, 100, -1002);
        Check.sentence("fair: NONE: part; BAD");
        everywhere("fair, part", (x, part) -> x.fair(50, part), 0, 1, NONE);
        everywhere("fair, p", (x, p) -> x.fair(p, 0), 1, 99, BAD);
        Check.sentence("learns: NONE; BAD");
        noSuchHand("learns, HAND", (x, h) -> x.learns(h, 0, 0, 0), NONE);
        whereUsed("learns, what", (x, what) -> x.learns(0, 0, 0, what), 0, 1, NONE);
        whereUsed("learns, n", (x, n) -> x.learns(0, n, 0, 0), 0, 9, BAD);
        whereUsed("learns, m", (x, m) -> x.learns(0, 0, m, 1), 0, 9, BAD);
    }

    private static void actsAndImage() {
        Check.sentence("trace: NONE");
        outside("trace, none ran", NEW, (x, i) -> x.trace(i), 0, -1, NONE);
        outside("trace, 7 ran", USED, (x, i) -> x.trace(i), 0, 6, NONE);
        outside("trace, 9 ran", FILLED, (x, i) -> x.trace(i), 0, 8, NONE);
        Check.sentence("as: NONE: law, k; -6");
        noSuchLaw("as, LAW", (x, law) -> x.as(law, 0), NONE);
        whereUsed("as, k", (x, k) -> x.as(0, k), 0, 6, NONE);
        refused("as, another KIND", USED, x -> x.as(0, 3), -6);
        Check.sentence("undo: STATE: there is none");
        refused("undo()", NEW, x -> x.undo(), STATE);
        refused("undo()", NO_IMAGE, x -> x.undo(), STATE);
        Check.sentence("count: NONE");
        everywhere("count, what", (x, what) -> x.count(what), 0, 5, NONE);
    }

    /** The one that changes something: there is no TRACE then. */
    private static void noActs() {
        Check.sentence("act: 0, and no TRACE then: no such LAW, act");
        int[][] some = {{NEW, 0, 0}, {USED, 4, 0}, {USED, -1, 0}, {USED, 0, 3}, {USED, 0, -1}, {USED, 4, 3},
            {FILLED, 8, 1}, {FILLED, -1, 2}, {FILLED, 7, 3}, {FILLED, 7, Check.MAX}, {FILLED, Check.MIN, 0}};
        for (int[] one : some) {
            HeadsByHair x = make(one[0]);
            String call = "act(" + one[1] + ", " + one[2] + ", 5) on object " + one[0];
            Check.due(call, x.act(one[1], one[2], 5), 0);
            Check.due(call + ", count(5)", x.count(5), 0);
            for (int i = 0; i < 20; i++) Check.due(call + ", trace(" + i + ")", x.trace(i), NONE);
            twins(call, x, make(one[0]), false);
        }
    }

    // ---- several at once

    private static void firstOneTold() {
        Check.sentence("REFUSALS, of several the first one told: NONE .. BAD .. STATE .. FULL");
        refused("coin, BAD and FULL", FILLED, x -> x.coin(10, 0), BAD);
        refused("coin, BAD and FULL", FILLED, x -> x.coin(0, -1), BAD);
        refused("hand, BAD and FULL", FILLED, x -> x.hand(0, 0), BAD);
        refused("hand, BAD and FULL", FILLED, x -> x.hand(1, 10), BAD);
        refused("feed, BAD and FULL", FILLED, x -> x.feed(0, 0), BAD);
        refused("feed, BAD and FULL", FILLED, x -> x.feed(0, 9), BAD);
        refused("row, BAD and FULL", FILLED, x -> x.row(2), BAD);
        refused("row, BAD and FULL", FILLED, x -> x.row(-2), BAD);
        refused("law, NONE and BAD", USED, x -> x.law(7, 10), NONE);
        refused("law, NONE, BAD and FULL", FILLED, x -> x.law(-1, -1), NONE);
        refused("law, NONE and FULL", FILLED, x -> x.law(7, 0), NONE);
        refused("law, BAD and FULL", FILLED, x -> x.law(0, 10), BAD);
        refused("law, NONE and an empty TAPE", NEW, x -> x.law(7, 0), NONE);
        refused("law, BAD and an empty TAPE", NEW, x -> x.law(0, 10), BAD);
        refused("counts, no HAND, n BAD", USED, x -> x.counts(3, 0, 1000, 0), NONE);
        refused("counts, no COIN, n BAD", USED, x -> x.counts(0, 2, -1, 0), NONE);
        refused("counts, no COIN, s BAD", USED, x -> x.counts(0, -1, 1, 2), NONE);
        refused("toss, no LAW, rise BAD", USED, x -> x.toss(4, 0, 0, 0, 0), NONE);
        refused("toss, no HAND, rise BAD", USED, x -> x.toss(0, 3, 0, 41, 0), NONE);
        refused("toss, no COIN, rise BAD", USED, x -> x.toss(0, 0, 2, 0, 0), NONE);
        refused("toss, no what, rise BAD", USED, x -> x.toss(0, 0, 0, 41, 4), NONE);
        refused("up, no LAW, tick BAD", USED, x -> x.up(4, 0, 0, 1, 0), NONE);
        refused("up, no HAND, rise BAD", USED, x -> x.up(0, -1, 0, 41, 1), NONE);
        refused("up, no COIN, both BAD", USED, x -> x.up(0, 0, 2, 0, 0), NONE);
        refused("worth, no LAW, n BAD", USED, x -> x.worth(4, 0, 0, 101), -1001);
        refused("worth, no HAND, n BAD", USED, x -> x.worth(0, 3, 0, -1), -1001);
        refused("worth, no COIN, n BAD", USED, x -> x.worth(0, 0, 2, 101), -1001);
        refused("fair, no part, p BAD", USED, x -> x.fair(0, 2), NONE);
        refused("fair, no part, p BAD", USED, x -> x.fair(100, -1), NONE);
        refused("learns, no HAND, n BAD", USED, x -> x.learns(3, 10, 0, 0), NONE);
        refused("learns, no what, m BAD", USED, x -> x.learns(0, 0, 10, 2), NONE);
        refused("as, no such KIND and another KIND", USED, x -> x.as(0, 7), NONE);
    }

    public static void main(String[] args) {
        coinsAndHands();
        laws();
        tosses();
        odds();
        countsAndRows();
        bets();
        actsAndImage();
        noActs();
        firstOneTold();
        Check.end("RefusalsTest");
    }
}
