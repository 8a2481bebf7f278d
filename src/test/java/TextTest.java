/**
 * THE TAPE and what a LAW is: at each place of the grammar all 256 bytes, each number's edges, how many
 * clauses there may be and how many of ! and ( open, and where the FAULT lies.
 */
public final class TextTest {
    private static final String DIGITS = "0123456789", OPENS = "!(rebht", JOINS = "&|;";

    /** Behind the text, of all bytes these alone can go on; with those of ends it is a LAW then. */
    private static void bytesBehind(String text, String goesOn, String ends) {
        for (int b = 0; b < 256; b++) {
            int want = ends.indexOf(b) >= 0 ? 0 : goesOn.indexOf(b) >= 0 ? -11 - text.length() : -10 - text.length();
            Check.due("law of '" + text + "' and byte " + b, Check.fresh(text + (char) b), want);
        }
    }

    private static void words() {
        Check.sentence("turn n E; lean n E; skip E; catch n");
        bytesBehind("", "tlsc", "");
        String[] words = {"turn ", "lean ", "skip ", "catch "};
        for (String word : words) {
            for (int k = 1; k < word.length(); k++) bytesBehind(word.substring(0, k), word.substring(k, k + 1), "");
        }
    }

    private static void blanks() {
        Check.sentence("one blank ahead of each part behind the word");
        Check.good("turn 1 r<1");
        Check.fault("turn1 r<1", 4);
        Check.fault("turn  1 r<1", 5);
        Check.fault("turn 1r<1", 6);
        Check.fault("turn 1  r<1", 7);
        Check.fault("turn 1 r<1 ", 10);
        Check.fault(" turn 1 r<1", 0);
        Check.fault("lean1 r<1", 4);
        Check.fault("lean  1 r<1", 5);
        Check.fault("lean 1r<1", 6);
        Check.fault("lean 1  r<1", 7);
        Check.fault("skipr<1", 4);
        Check.fault("skip  r<1", 5);
        Check.fault("catch1", 5);
        Check.fault("catch  1", 6);
        Check.fault("catch 1 ", 7);
        Check.fault("catch 1; catch 1", 8);
        Check.fault("catch 1 ;catch 1", 7);
        Check.fault("skip r <1", 6);
        Check.fault("skip r< 1", 7);
        Check.fault("skip ( r<1)", 6);
        Check.fault("skip ! r<1", 6);
    }

    private static void numbers() {
        Check.sentence("n 1 or 2 digits, no 0 ahead of another");
        String[] words = {"turn ", "lean "};
        for (String word : words) {
            bytesBehind(word, DIGITS, "");
            bytesBehind(word + "0", " ", "");
            bytesBehind(word + "1", DIGITS + " ", "");
            bytesBehind(word + "9", DIGITS + " ", "");
            bytesBehind(word + "10", " ", "");
            bytesBehind(word + "99", " ", "");
        }
        bytesBehind("catch ", "", DIGITS);
        bytesBehind("catch 0", ";", "");
        bytesBehind("catch 1", ";", DIGITS);
        bytesBehind("catch 9", ";", DIGITS);
        bytesBehind("catch 10", ";", "");
        bytesBehind("catch 99", ";", "");
        Check.sentence("one of < = >, a number likewise");
        for (String letter : "r e b h t".split(" ")) {
            bytesBehind("skip " + letter, "<=>", "");
            for (String sign : "< = >".split(" ")) {
                bytesBehind("skip " + letter + sign, "", DIGITS);
                bytesBehind("skip " + letter + sign + "0", JOINS, "");
                bytesBehind("skip " + letter + sign + "9", JOINS, DIGITS);
                bytesBehind("skip " + letter + sign + "10", JOINS, "");
            }
        }
    }

    private static void parts() {
        Check.sentence("E: T, or T|E. T: F, or F&T. F: !F, (E), or a TEST");
        bytesBehind("turn 1 ", OPENS, "");
        bytesBehind("lean 99 ", OPENS, "");
        bytesBehind("skip ", OPENS, "");
        bytesBehind("skip r<1&", OPENS, "");
        bytesBehind("skip r<1|", OPENS, "");
        bytesBehind("skip !", OPENS, "");
        bytesBehind("skip (", OPENS, "");
        bytesBehind("skip !r<1", JOINS, DIGITS);
        bytesBehind("skip (r<1", DIGITS + "&|", ")");
        bytesBehind("skip (r<0", "&|", ")");
        bytesBehind("skip (r<1)", JOINS, "");
        bytesBehind("skip ((r<1)", "&|", ")");
        bytesBehind("skip (r<1&", OPENS, "");
        bytesBehind("skip !(r<1)", JOINS, "");
        bytesBehind("skip (!r<10", "&|", ")");
        bytesBehind("catch 1;", "tlsc", "");
    }

    private static void open() {
        Check.sentence("At most 5 of ! and ( are open (a ( till its ) , a ! till its F ends)");
        for (int bits = 0; bits < 32; bits++) {
            StringBuilder opens = new StringBuilder(), closes = new StringBuilder();
            for (int k = 0; k < 5; k++) {
                boolean isRound = (bits >> k & 1) == 1;
                opens.append(isRound ? '(' : '!');
                if (isRound) closes.append(')');
            }
            Check.good("skip " + opens + "r<1" + closes);
            Check.fault("skip " + opens + "!r<1" + closes, 10);
            Check.fault("skip " + opens + "(r<1)" + closes, 10);
            Check.good("skip " + opens + "r<1" + closes + "&" + opens + "r<1" + closes);
            Check.good("skip " + opens + "r<1" + closes + "|" + opens + "r<1" + closes);
            Check.good("skip " + opens + "r<1" + closes + ";turn 1 " + opens + "r<1" + closes);
        }
        bytesBehind("skip !!!!", OPENS, "");
        bytesBehind("skip ((((", OPENS, "");
        bytesBehind("skip !!!!!", "rebht", "");
        bytesBehind("skip (((((", "rebht", "");
        bytesBehind("skip (((((r<0&", "rebht", "");
        bytesBehind("skip !!!!!r<0&", OPENS, "");
        bytesBehind("skip (((((r<0)))))", JOINS, "");
        Check.sentence("a ( till its )");
        Check.good("skip ((((r<1&(r<1))))&(r<1))");
        Check.good("skip (((((r<1)&(r<1))&(r<1))&(r<1))&(r<1))");
        Check.fault("skip (((((r<1)&((r<1))&(r<1))&(r<1))&(r<1))", 16);
        Check.good("skip (r<1|((((r<1)))))");
        Check.fault("skip (r<1|(((((r<1))))))", 14);
        Check.sentence("a ! till its F ends");
        Check.good("skip (((!r<1&(!r<1))))");
        Check.good("skip !!!!(r<1)&!!!!!r<1");
        Check.good("skip (!!!!r<1|!!!!r<1)");
        Check.fault("skip (!!!!r<1|!!!!!r<1)", 18);
        Check.good("skip !(!(!r<1|!r<1)&!(r<1))");
        Check.fault("skip !(!(!!r<1|!r<1)&!(r<1))", 10);
        Check.good("skip !(!!!r<1&!!!r<1)");
        Check.fault("skip !(!!!r<1&!!!!r<1)", 17);
        Check.good("skip !(r<1)&(((((r<1)))))");
    }

    private static void clauses() {
        Check.sentence("CLAUSES, 8 at most, with ; between");
        String[] some = {"turn 1 r<1", "lean 1 r<1", "skip r<1", "catch 1"};
        for (String clause : some) {
            for (int n = 1; n <= 8; n++) Check.good(Check.times(n, clause, ";"));
            String eight = Check.times(8, clause, ";");
            Check.fault(eight + ";", eight.length());
            Check.fault(eight + ";" + clause, eight.length());
            String seven = Check.times(7, clause, ";");
            Check.fault(seven + ";", seven.length() + 1);
        }
        bytesBehind(Check.times(7, "catch 0", ";") + ";", "tlsc", "");
        bytesBehind(Check.times(8, "catch 0", ";"), "", "");
        bytesBehind(Check.times(7, "catch 0", ";"), ";", "");
        bytesBehind(Check.times(8, "skip r<0", ";"), "&|", "");
        Check.fault(";", 0);
        Check.fault("catch 1;;catch 1", 8);
    }

    private static void faults() {
        Check.sentence("FAULT: the place of the first byte with which no LAW can go on (the size, if it ends too early)");
        Check.due("law of an empty TAPE", new HeadsByHair().law(1, 0), -10);
        String whole = "turn 1 !(r<12|e=3)&b>4;lean 20 h=5;skip t>60;catch 99";
        String sizesOfLaws = " 18 22 34 43 44 52 ";
        for (int size = 0; size < whole.length(); size++) {
            String some = whole.substring(0, size);
            if (sizesOfLaws.contains(" " + size + " ")) Check.good(some);
            else Check.fault(some, size);
            Check.fault(some + "?", size);
        }
        Check.good(whole);
        Check.sentence("of several faults the first one");
        Check.fault("turn x y", 5);
        Check.fault("lean 1 r<x;y", 9);
        String most = Check.LONG_LAW;
        Check.sentence("THE TAPE (bytes, 120 at most)");
        Check.due("size of the long LAW", most.length(), 120);
        Check.good(most);
        Check.fault(most.substring(0, 119) + "x", 119);
        Check.fault(most.substring(0, 119) + "(", 119);
        String shorter = most.substring(0, 116);
        Check.good(shorter);
        Check.fault(shorter + "&!!!", 120);
        Check.fault(shorter + "|!t=", 120);
        Check.fault(shorter + ";cat", 120);
        Check.fault(shorter + "|t>;", 119);
        Check.fault("x".repeat(120), 0);
    }

    public static void main(String[] args) {
        words();
        blanks();
        numbers();
        parts();
        open();
        clauses();
        faults();
        Check.end("TextTest");
    }
}
