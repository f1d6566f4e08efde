/** Boundary cases of promises 10 to 13, and of Terms 2: each sentence that names one, with tests of its own. */
public final class TextEdges extends Given {
    private static final Checks checks = new Checks("TextEdges");
    private static final String DIGITS = "0123456789";
    private static final String JOINS = "|&<=>+-*/%";
    private static final String NO_COMPARISON = "|&+-*/%";

    private static void due(String call, long got, long want) {
        checks.due(call, got, want);
    }

    public static void main(String[] args) {
        bytesOfAWord();
        bytesAreNotSigned();
        atMostSixtyBytes();
        aFullTapeTakesNoPart();
        fullAndBeyond();
        usesOfTexts();
        theTapeIsEmptyThen();
        theOneAheadStays();
        faultsAtTheEnds();
        firstBytes(0, "hyo");
        firstBytes(1, "ybs");
        bytesBehindAnOperand();
        digitsOfANumber();
        oneComparison();
        opened();
        openedAndClosed();
        noBlanks();
        oneOrNone();
        divided();
        intsThatWrap();
        heldByUse();
        namesInOrder();
        restOfTheYear();
        placesOfYards();
        untold();
        checks.end();
    }

    /** The n lowest bytes (1 .. 8) of a word, the lowest first. */
    private static void bytesOfAWord() {
        String tape = "h+2345-9";
        long word = 0;
        for (int i = 7; i >= 0; i--) {
            word = word << 8 | tape.charAt(i);
        }
        int[] answers = {1, -12, 1, 1, 1, 1, -17, 1};
        int[] laws = {1000, -1, 2, 23, 234, 2345, -1, 2336};
        for (int n = 1; n <= 8; n++) {
            StreetNumbers x = new StreetNumbers();
            due("feed of " + n, x.feed(word, n), n);
            due("bytes of THE TAPE", x.count(3), n);
            due("text of " + n + " bytes", x.text(0), answers[n - 1]);
            if (n > 1 && answers[n - 1] == 1) {
                textOf(x, 0, tape.substring(0, n) + "-" + laws[n - 1]);
                due("all of " + n + " bytes are it", x.law(0, 7, 0, 0), 7);
            }
        }
        for (int n : new int[] {0, 9, -1, 10, MIN, MAX}) {
            StreetNumbers x = new StreetNumbers();
            due("feed of " + n, x.feed(word, n), BEYOND);
            due("THE TAPE stays", x.count(3), 0);
        }
        StreetNumbers x = new StreetNumbers();
        due("the seven bytes above don't matter", x.feed(0xffffffffffffff00L | 'h', 1), 1);
        due("it is h", x.text(0), 1);
        due("the highest byte", x.feed((long) 'h' << 56, 8), 8);
        due("eight bytes, the first is 0", x.text(0), -10);
    }

    /** Bytes: those of 128 and more are no TEXT's. */
    private static void bytesAreNotSigned() {
        for (int b = 0; b < 256; b++) {
            StreetNumbers x = new StreetNumbers();
            x.feed('1' | (long) b << 8, 2);
            boolean digit = b >= '0' && b <= '9';
            boolean joins = b < 128 && JOINS.indexOf(b) >= 0;
            due("1 and byte " + b, x.text(0), digit ? 1 : joins ? -12 : -11);
        }
        StreetNumbers x = new StreetNumbers();
        due("all ones", x.feed(-1L, 8), 8);
        due("FAULT 0", x.text(0), -10);
        due("the least word", x.feed(Long.MIN_VALUE, 8), 8);
        due("FAULT 0 too", x.text(0), -10);
        due("the largest word", x.feed(Long.MAX_VALUE, 8), 8);
        due("and of it", x.text(0), -10);
    }

    private static StreetNumbers taped(int bytes) {
        StreetNumbers x = new StreetNumbers();
        for (int i = 0; i < bytes; i++) {
            x.feed('(', 1);
        }
        return x;
    }

    /** THE TAPE (bytes, at most 60). */
    private static void atMostSixtyBytes() {
        for (int n = 1; n <= 8; n++) {
            StreetNumbers x = taped(60 - n);
            due(n + " up to 60", x.feed(0, n), 60);
            due("60 bytes", x.count(3), 60);
            due("one more than 60", x.feed(0, 1), FULL);
            x = taped(61 - n);
            due(n + " up to 61", x.feed(0, n), FULL);
            due("none of them came", x.count(3), 61 - n);
            if (n > 1) {
                due("one less goes on", x.feed(0, n - 1), 60);
            }
        }
        StreetNumbers x = taped(60);
        for (int n = 1; n <= 8; n++) {
            due("full, and " + n, x.feed(0, n), FULL);
        }
        due("60 bytes stay", x.count(3), 60);
    }

    /** FULL: no part of the word comes. */
    private static void aFullTapeTakesNoPart() {
        StreetNumbers x = new StreetNumbers();
        String most = "h" + "+1".repeat(29);
        due("59 bytes", feedAll(x, most), 59);
        due("two more", x.feed('0' | '0' << 8, 2), FULL);
        due("text of 59", x.text(0), 1);
        due("is as it was", x.law(0, 1, 0, 0), 30);
        due("59 bytes once more", feedAll(x, most), 59);
        due("one more", x.feed('0', 1), 60);
        due("text of 60", x.text(0), 1);
        due("ends with 10", x.law(0, 1, 0, 0), 39);
        due("60 bytes, each a number, a NAME or a sign", textOf(x, 0, "!h" + "+h".repeat(29)), 1);
        due("all are worked out", x.law(0, 5, 0, 0), 145);
        due("the first of them, too", x.law(0, 0, 0, 0), 1);
        due("60 bytes, the last a NAME", textOf(x, 0, "!1" + "+0".repeat(28) + "-o"), 1);
        due("it is worked out", x.law(0, 0, 0, -7), 7);
    }

    /** feed: BEYOND. FULL. */
    private static void fullAndBeyond() {
        StreetNumbers x = taped(60);
        for (int n : new int[] {0, 9, -1, MIN, MAX}) {
            due("full, and n " + n, x.feed(0, n), BEYOND);
        }
        due("told BEYOND", x.told(1), 5);
        due("told FULL", x.told(4), 0);
    }

    /** text, untell, law: a USE (0, 1); BEYOND (THE TAPE stays). */
    private static void usesOfTexts() {
        StreetNumbers x = new StreetNumbers();
        feedAll(x, "y*2");
        for (int use : new int[] {-1, 2, 3, MIN, MAX}) {
            due("text of USE " + use, x.text(use), BEYOND);
            due("THE TAPE stays", x.count(3), 3);
            due("untell of USE " + use, x.untell(use), BEYOND);
            due("law of USE " + use, x.law(use, 1, 1, 1), BEYOND);
        }
        due("told", x.told(1), 15);
        due("text of USE 1", x.text(1), 1);
        due("as it was fed", x.law(1, 7, 0, 0), 14);
        due("USE 0 has none", x.law(0, 7, 5, 0), 7);
        due("text of USE 0", textOf(x, 0, "y*3"), 1);
        due("USE 0 is y's", x.law(0, 7, 5, 0), 15);
        due("USE 1 stays", x.law(1, 7, 0, 0), 14);
    }

    /** THE TAPE, which is empty then, also after a FAULT. */
    private static void theTapeIsEmptyThen() {
        StreetNumbers x = new StreetNumbers();
        due("a TEXT", textOf(x, 0, "h+1"), 1);
        due("empty then", x.count(3), 0);
        due("of an empty TAPE", x.text(0), -10);
        due("from the first byte again", feedAll(x, "h"), 1);
        due("h alone", x.text(0), 1);
        due("not h+1", x.law(0, 5, 0, 0), 5);
        due("a FAULT", textOf(x, 0, "h+)"), -12);
        due("empty, too", x.count(3), 0);
        due("of an empty TAPE again", x.text(0), -10);
        due("sixty bytes of nothing", textOf(x, 0, "(".repeat(60)), -15);
        due("empty, too, of sixty", x.count(3), 0);
        due("eight again", x.feed(0, 8), 8);
    }

    /** In place of one ahead; -10 less the FAULT (no ERROR; the one ahead stays). */
    private static void theOneAheadStays() {
        StreetNumbers x = new StreetNumbers();
        due("a FAULT without one ahead", textOf(x, 0, "+"), -10);
        due("there is none", x.untell(0), 0);
        due("one", textOf(x, 0, "h+1"), 1);
        due("a FAULT", textOf(x, 0, "h+2+"), -14);
        due("the one ahead stays", x.law(0, 5, 0, 0), 6);
        due("an empty TAPE", x.text(0), -10);
        due("it stays still", x.law(0, 5, 0, 0), 6);
        due("a longer one", textOf(x, 0, "h+1+1+1+1"), 1);
        due("in its place", x.law(0, 5, 0, 0), 9);
        due("a shorter one", textOf(x, 0, "h"), 1);
        due("in its place, whole", x.law(0, 5, 0, 0), 5);
        due("the one of the other USE", textOf(x, 1, "y+1"), 1);
        due("stays apart", x.law(0, 5, 0, 0), 5);
        for (int k = 1; k <= 6; k++) {
            due("a FAULT is no ERROR " + k, x.told(k), 0);
        }
        due("there was one", x.untell(0), 1);
    }

    /**
     * FAULT: the place of the first byte with which no TEXT goes on; how many there are, if it ends too early.
     * By the grammar alone, also at the end of a full TAPE (NOTES.md).
     */
    private static void faultsAtTheEnds() {
        String most = "h" + "+1".repeat(29);
        due("too early, 0 bytes", textOf(new StreetNumbers(), 0, ""), -10);
        due("too early, 1 byte", textOf(new StreetNumbers(), 0, "!"), -11);
        due("too early, 59 bytes", textOf(new StreetNumbers(), 0, "12" + "+1".repeat(28) + "+"), -69);
        due("too early, 60 bytes", textOf(new StreetNumbers(), 0, most + "+"), -70);
        due("at the last of 60", textOf(new StreetNumbers(), 0, most + ")"), -69);
        due("at the last but one", textOf(new StreetNumbers(), 0, most.substring(0, 58) + ")1"), -68);
        due("60 bytes, none", textOf(new StreetNumbers(), 0, most + "1"), 1);
        due("open at 60", textOf(new StreetNumbers(), 0, "(" + most), -70);
        due("closed at 60", textOf(new StreetNumbers(), 0, "(" + most.substring(0, 57) + "1)"), 1);
        due("the first of two", textOf(new StreetNumbers(), 0, "h+)+)"), -12);
        due("the first, when it ends too early as well", textOf(new StreetNumbers(), 0, "hh+"), -11);
    }

    /** All 256 bytes behind what was ahead: with which a TEXT ends well, with which one goes on, with which none does. */
    private static void behind(int use, String ahead, String ends, String goesOn) {
        for (int b = 0; b < 256; b++) {
            StreetNumbers x = new StreetNumbers();
            int most = ahead.length() + 1;
            int want = ends.indexOf(b) >= 0 ? 1 : -10 - (goesOn.indexOf(b) >= 0 ? most : most - 1);
            due("\"" + ahead + "\" and byte " + b, textOf(x, use, ahead + (char) b), want);
        }
    }

    /** A NUMBER, a NAME (of that USE), !, ( begin a TEXT, and stand behind each sign that joins. */
    private static void firstBytes(int use, String names) {
        behind(use, "", DIGITS + names, "!(");
        for (int i = 0; i < JOINS.length(); i++) {
            behind(use, "7" + JOINS.charAt(i), DIGITS + names, "!(");
        }
        behind(use, "y<y&", DIGITS + names, "!(");
        behind(use, "!", DIGITS + names, "!(");
        behind(use, "(", "", "!(" + DIGITS + names);
    }

    private static void bytesBehindAnOperand() {
        behind(0, "h", "", JOINS);
        behind(1, "b", "", JOINS);
        behind(0, "!h", "", JOINS);
        behind(0, "(h)", "", JOINS);
        behind(0, "(h", ")", JOINS);
        behind(0, "((h)", ")", JOINS);
        behind(0, "((h", "", JOINS + ")");
        behind(0, "h+y", "", JOINS);
        behind(0, "h*y", "", JOINS);
        behind(0, "h|y", "", JOINS);
        behind(0, "h&y", "", JOINS);
    }

    /** A NUMBER of 1 to 4 digits. */
    private static void digitsOfANumber() {
        behind(0, "0", DIGITS, JOINS);
        behind(0, "12", DIGITS, JOINS);
        behind(0, "123", DIGITS, JOINS);
        behind(0, "1234", "", JOINS);
        behind(0, "0000", "", JOINS);
        behind(0, "h+123", DIGITS, JOINS);
        behind(0, "h+9999", "", JOINS);
        behind(0, "!999", DIGITS, JOINS);
        behind(0, "!9999", "", JOINS);
        behind(0, "(123", ")", DIGITS + JOINS);
        behind(0, "(1234", ")", JOINS);
        StreetNumbers x = new StreetNumbers();
        String[] numbers = {"0", "9", "10", "99", "100", "998", "0007", "0999", "0000"};
        int[] values = {0, 9, 10, 99, 100, 998, 7, 999, 0};
        for (int i = 0; i < numbers.length; i++) {
            textOf(x, 0, numbers[i]);
            due("NUMBER " + numbers[i], x.law(0, 1, 1, 1), values[i]);
        }
        textOf(x, 0, "9999-h");
        due("the largest NUMBER", x.law(0, 9998, 0, 0), 1);
        due("is 9999", x.law(0, 9999, 0, 0), 0);
    }

    /** B: S, or S < S, S = S, S > S: one of them, until & or | or a bracket. */
    private static void oneComparison() {
        for (String sign : new String[] {"<", "=", ">"}) {
            behind(0, "h" + sign + "y", "", NO_COMPARISON);
            behind(0, "h" + sign + "1", DIGITS, NO_COMPARISON);
            behind(0, "h+1" + sign + "y*o", "", NO_COMPARISON);
            behind(0, "(h" + sign + "y", ")", NO_COMPARISON);
            behind(0, "(h" + sign + "y)", "", JOINS);
            behind(0, "h" + sign + "(y", ")", JOINS);
            behind(0, "h" + sign + "(y)", "", NO_COMPARISON);
            behind(0, "h" + sign + "(y=o)", "", NO_COMPARISON);
            behind(0, "h" + sign + "!y", "", NO_COMPARISON);
            behind(0, "h" + sign + "y|o", "", JOINS);
            behind(0, "h" + sign + "y&o", "", JOINS);
            behind(0, "h" + sign + "y&o" + sign + "h", "", NO_COMPARISON);
        }
    }

    /** At most 5 of ! and ( are open at once. */
    private static void opened() {
        String operands = DIGITS + "hyo";
        behind(0, "!!!!", operands, "!(");
        behind(0, "!!!!!", operands, "");
        behind(0, "((((", "", operands + "!(");
        behind(0, "(((((", "", operands);
        behind(0, "!(!(", "", operands + "!(");
        behind(0, "!(!(!", "", operands);
        behind(0, "(!(!(", "", operands);
        behind(0, "!!!!(", "", operands);
        behind(0, "((((!", "", operands);
        behind(0, "(((((h+", "", operands);
        behind(0, "(((((h|", "", operands);
        behind(1, "(((((", "", DIGITS + "ybs");
    }

    /** What is closed is open no more; ! ends with its Q. */
    private static void openedAndClosed() {
        String operands = DIGITS + "hyo";
        behind(0, "!!!!!h+", operands, "!(");
        behind(0, "!!!!!h+!!!!!", operands, "");
        behind(0, "!!!!!h+((((", "", operands + "!(");
        behind(0, "(((((h)", "", JOINS + ")");
        behind(0, "(((((h)+", "", operands + "!(");
        behind(0, "(((((h)+!", "", operands);
        behind(0, "(((((h)+(", "", operands);
        behind(0, "(((((h)))))+", operands, "!(");
        behind(0, "(((((h)))))+((((", "", operands + "!(");
        behind(0, "(((((h)))))+(((((", "", operands);
        behind(0, "(!!!!h+", "", operands + "!(");
        behind(0, "(!!!!h+!!!!", "", operands);
        behind(0, "!(!!!h+!!!", "", operands);
        behind(0, "!(h)+!!!!", operands, "!(");
        behind(0, "!(h)+!!!!!", operands, "");
        behind(0, "!!!(!h)+!!!!!", operands, "");
        StreetNumbers x = new StreetNumbers();
        due("five, closed, five", textOf(x, 0, "(((((h)))))+!!!!!y+(!(!(o)))"), 1);
        due("worked out", x.law(0, 7, 0, 3), 7 + 1 + 1);
    }

    /** No blanks. */
    private static void noBlanks() {
        String[] texts = {" h", "h ", "h +1", "h+ 1", "1 2", "( h)", "(h )", "! h", "h\n", "\th"};
        int[] faults = {0, 1, 1, 2, 1, 1, 2, 1, 1, 0};
        for (int i = 0; i < texts.length; i++) {
            due("blank in text " + i, textOf(new StreetNumbers(), 0, texts[i]), -10 - faults[i]);
        }
    }

    private static void gives(String text, int a, int b, int want) {
        StreetNumbers x = new StreetNumbers();
        due("text " + text, textOf(x, 0, text), 1);
        due(text + " of " + a + ", " + b, x.law(0, a, b, 0), want);
    }

    /** | & < = > ! are 1 or 0, what is not 0 being true. */
    private static void oneOrNone() {
        int[] trues = {1, -1, 2, 4, MIN, MAX};
        for (int a : trues) {
            gives("!h", a, 0, 0);
            gives("!!h", a, 0, 1);
            gives("h|y", a, 0, 1);
            gives("h|y", 0, a, 1);
            gives("h&y", a, 0, 0);
            gives("h&y", 0, a, 0);
            for (int b : trues) {
                gives("h|y", a, b, 1);
                gives("h&y", a, b, 1);
            }
        }
        gives("!h", 0, 0, 1);
        gives("!!h", 0, 0, 0);
        gives("h|y", 0, 0, 0);
        gives("h&y", 0, 0, 0);
        int[][] pairs = {{0, 0}, {0, 1}, {1, 0}, {-1, 0}, {0, -1}, {MIN, MAX}, {MAX, MIN}, {MIN, MIN}, {MAX, MAX},
            {MIN, 1}, {1, MIN}, {MAX, -1}, {-1, MAX}, {-2, -1}};
        for (int[] pair : pairs) {
            gives("h<y", pair[0], pair[1], pair[0] < pair[1] ? 1 : 0);
            gives("h=y", pair[0], pair[1], pair[0] == pair[1] ? 1 : 0);
            gives("h>y", pair[0], pair[1], pair[0] > pair[1] ? 1 : 0);
        }
    }

    /** / cut, % the rest that it leaves, both by 0 are 0. */
    private static void divided() {
        int[][] quotients = {{7, 2, 3}, {-7, 2, -3}, {7, -2, -3}, {-7, -2, 3}, {1, 2, 0}, {-1, 2, 0}, {6, 3, 2},
            {0, 5, 0}, {7, 0, 0}, {0, 0, 0}, {-7, 0, 0}};
        for (int[] q : quotients) {
            gives("h/y+500", q[0], q[1], q[2] + 500);
        }
        int[][] rests = {{7, 3, 1}, {-7, 3, -1}, {7, -3, 1}, {-7, -3, -1}, {6, 3, 0}, {-6, 3, 0}, {2, 3, 2},
            {-2, 3, -2}, {7, 0, 0}, {0, 0, 0}, {-7, 0, 0}};
        for (int[] r : rests) {
            gives("h%y+500", r[0], r[1], r[2] + 500);
        }
        gives("h/0", 7, 0, 0);
        gives("h%0", 7, 0, 0);
        gives("h/(y-y)+3", 7, 5, 3);
        gives("h%(y-y)+3", 7, 5, 3);
        gives("h/2*2", 7, 0, 6);
        gives("h%4*2", 7, 0, 6);
    }

    /** Ints that wrap. */
    private static void intsThatWrap() {
        gives("h+y", MAX, 1, 0);
        gives("h+y", MAX, MIN, 0);
        gives("h+y", MIN, MIN, 0);
        gives("h+y", MAX, MAX, 0);
        gives("h+y+9", MAX, MAX, 7);
        gives("h+y", MIN, MIN + 8, 8);
        gives("h-y", MIN, MAX, 1);
        gives("h-y", MIN, 1, 999);
        gives("h-y", MAX, -1, 0);
        gives("h-y", 0, MIN, 0);
        gives("h-y+7", MIN, MIN, 7);
        gives("h*y", 65536, 65536, 0);
        gives("h*y", 65536, 32768, 0);
        gives("h*y", 65537, 65537, 999);
        gives("h*y", MIN, -1, 0);
        gives("h*y", MAX, MAX, 1);
        gives("h/y", MIN, -1, 0);
        gives("h/y-1", MIN, -1, 999);
        gives("h%y+5", MIN, -1, 5);
        gives("h/y", MIN, 1, 0);
        gives("h/y", MIN, MIN, 1);
        gives("h/y+9", MAX, MIN, 9);
        gives("h%y", MAX, MIN, 999);
        gives("9999*9999*9999", 0, 0, 0);
        gives("9999*9999", 0, 0, 999);
    }

    /** HARM: held within 0 .. 999. YARDS: held within 1 .. 99. With a TEXT and without (held likewise). */
    private static void heldByUse() {
        int[][] harms = {{MIN, 0}, {-1000, 0}, {-1, 0}, {0, 0}, {1, 1}, {998, 998}, {999, 999}, {1000, 999}, {MAX, 999}};
        int[][] yards = {{MIN, 1}, {-1, 1}, {0, 1}, {1, 1}, {2, 2}, {98, 98}, {99, 99}, {100, 99}, {999, 99}, {MAX, 99}};
        StreetNumbers x = new StreetNumbers();
        for (int with = 0; with <= 1; with++) {
            for (int[] one : harms) {
                due("HARM of " + one[0], x.law(0, one[0], 50, 50), one[1]);
            }
            for (int[] one : yards) {
                due("YARDS of " + one[0], x.law(1, one[0], 50, 50), one[1]);
            }
            textOf(x, 0, "h");
            textOf(x, 1, "y");
        }
        StreetNumbers y = house(0, 1);
        for (int[] one : yards) {
            if (one[0] >= -1 && one[0] <= 999) {
                textOf(y, 1, one[0] < 0 ? "0-1" : Integer.toString(one[0]));
                due("YARDS of the HOUSE, by " + one[0], y.houseIs(0, 4), one[1]);
            }
        }
    }

    /** NAMES in order as a, b, c (any number). */
    private static void namesInOrder() {
        for (String use : new String[] {"hyo", "ybs"}) {
            StreetNumbers x = new StreetNumbers();
            int which = use.equals("hyo") ? 0 : 1;
            for (int i = 0; i < 3; i++) {
                due("NAME " + use.charAt(i), textOf(x, which, "" + use.charAt(i)), 1);
                due("is number " + i, x.law(which, 11, 22, 33), 11 * (i + 1));
                due("the least", x.law(which, MIN, MIN, MIN), which);
                due("the largest", x.law(which, MAX, MAX, MAX), which == 0 ? 999 : 99);
            }
        }
        StreetNumbers x = new StreetNumbers();
        due("without a TEXT, the first", x.law(0, 11, 22, 33), 11);
        due("without a TEXT, the first of YARDS", x.law(1, 11, 22, 33), 11);
    }

    /** y, s: the rest of YEAR by 7. */
    private static void restOfTheYear() {
        int[] years = {0, 1, 6, 7, 8, 13, 14, 9995, 9996, 9999};
        int[] rests = {0, 1, 6, 0, 1, 6, 0, 6, 0, 3};
        StreetNumbers x = house(0, 20);
        textOf(x, 0, "y");
        textOf(x, 1, "s+1");
        for (int i = 0; i < years.length; i++) {
            x.year(years[i]);
            due("y of YEAR " + years[i], x.harm(0, 21), rests[i]);
            due("s of YEAR " + years[i], x.houseIs(0, 4), rests[i] + 1);
        }
    }

    /** b its PLACE, y its FRONT; o its PLATE, h how it MINDS. */
    private static void placesOfYards() {
        StreetNumbers x = new StreetNumbers();
        for (int h = 0; h < 10; h++) {
            x.build(0, 0, 100 + h);
        }
        textOf(x, 1, "b+1");
        for (int h = 0; h < 10; h++) {
            due("b of HOUSE " + h, x.houseIs(h, 4), 10 - h);
        }
        textOf(x, 1, "y*2");
        due("y is FRONT", x.houseIs(0, 4), 12);
        textOf(x, 0, "o");
        due("o is its PLATE", x.harm(7, 999), 107);
        x.renames(7, 1);
        due("o is its PLATE of now", x.harm(7, 999), 1);
        textOf(x, 0, "h");
        due("h is how it MINDS", x.harm(7, 999), 998);
    }

    /** There is no TEXT of a USE any more: 1 if there was, else 0. */
    private static void untold() {
        for (int use = 0; use <= 1; use++) {
            StreetNumbers x = new StreetNumbers();
            due("none", x.untell(use), 0);
            textOf(x, use, "5");
            due("of the other none", x.untell(1 - use), 0);
            feedAll(x, "y");
            due("there was", x.untell(use), 1);
            due("THE TAPE stays", x.count(3), 1);
            due("there is none", x.untell(use), 0);
            due("as without", x.law(use, 50, 0, 0), 50);
            due("one again", x.text(use), 1);
            due("there was again", x.untell(use), 1);
        }
    }
}
