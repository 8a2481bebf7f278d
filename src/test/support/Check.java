/** What the tests of bounds and refusals share: asking, feeding, and objects to ask. */
final class Check {
    static final int NONE = HeadsByHair.NONE, BAD = HeadsByHair.BAD;
    static final int STATE = HeadsByHair.STATE, FULL = HeadsByHair.FULL;
    static final long NO = HeadsByHair.NO;
    static final int MIN = Integer.MIN_VALUE, MAX = Integer.MAX_VALUE;

    /** With a RISE of 9 the ANGLE behind the THROW is the COIN's EDGE. */
    static final String EDGE_LAW =
        "turn 1 t=1&e>0|t=2&e>1|t=3&e>2|t=4&e>3|t=5&e>4|t=6&e>5|t=7&e>6|t=8&e>7|t=9&e>8";
    /** Likewise its BEND. */
    static final String BEND_LAW = EDGE_LAW.replace('e', 'b');

    /** 120 bytes. */
    static final String LONG_LAW = "turn 10 " + times(26, "t=1", "|") + "|t=20|t>2";

    private static int asked = 0, wrong = 0;
    private static String sentence = "";

    private Check() {
    }

    /** The document's words that the answers from here on hold to. */
    static void sentence(String words) {
        sentence = words;
    }

    static void due(String call, long got, long want) {
        due(call, Long.toString(got), Long.toString(want));
    }

    static void due(String call, String got, String want) {
        asked++;
        if (got.equals(want)) return;
        wrong++;
        System.out.println("'" + sentence + "': " + call + " answered " + got + ", due is " + want);
    }

    /** Feeds a text whole; the answer of the last feed. */
    static int feed(HeadsByHair x, String text) {
        int size = 0;
        for (int at = 0; at < text.length(); at += 8) {
            String some = text.substring(at, Math.min(at + 8, text.length()));
            long w = 0;
            for (int k = 0; k < some.length(); k++) w = w << 8 | some.charAt(k) & 255;
            size = x.feed(w, some.length());
        }
        return size;
    }

    static int law(HeadsByHair x, String text, int kind, int v) {
        feed(x, text);
        return x.law(kind, v);
    }

    /** What a new object answers to a text taken for a LAW: 0, or -10 less the FAULT. */
    static int fresh(String text) {
        return law(new HeadsByHair(), text, 1, 0);
    }

    static void good(String text) {
        due("law of '" + text + "'", fresh(text), 0);
    }

    static void fault(String text, int place) {
        due("law of '" + text + "'", fresh(text), -10 - place);
    }

    static HeadsByHair withCoinAndHand(int edge, int bend, int rise, int wandering) {
        HeadsByHair x = new HeadsByHair();
        x.coin(edge, bend);
        x.hand(rise, wandering);
        return x;
    }

    /** A COIN, a HAND of that RISE and WANDERING, and one LAW of KIND TURNING. */
    static HeadsByHair turning(String text, int rise, int wandering) {
        HeadsByHair x = withCoinAndHand(0, 0, rise, wandering);
        law(x, text, 1, 0);
        return x;
    }

    static void fillRow(HeadsByHair x, String sides) {
        x.row(-1);
        for (int k = 0; k < sides.length(); k++) x.row(sides.charAt(k) - '0');
    }

    static String times(int n, String some, String between) {
        return (some + between).repeat(n - 1) + some;
    }

    static void end(String name) {
        System.out.println(name + ": " + asked + " answers, " + wrong + " not as due");
        if (wrong != 0) System.exit(1);
    }
}
