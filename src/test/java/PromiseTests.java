/** Each promise of the document: ordinary inputs, the edges that it names, wrong inputs. */
public final class PromiseTests extends Given {
    private static final Checks checks = new Checks("PromiseTests");

    private static void due(String call, long got, long want) {
        checks.due(call, got, want);
    }

    public static void main(String[] args) {
        p1New();
        p2Build();
        p3HouseIs();
        p3Fronts();
        p4Standing();
        p5Become();
        p6As();
        p7Harm();
        p8Renames();
        p9Year();
        p10Feed();
        p11Text();
        p11Faults();
        p12Untell();
        p13Law();
        p14Renumber();
        p15Would();
        p16Gap();
        p17Least();
        p18Between();
        p19Fewest();
        p20Search();
        p21Odds();
        p22Order();
        p23Fits();
        p24Loose();
        p25Seed();
        p26Voice();
        p27Body();
        p28Sheet();
        p29Put();
        p30Move();
        p31Plates();
        p32Judge();
        p33Image();
        p34Restore();
        p35Tell();
        p36Check();
        p37Count();
        p38Told();
        checks.end();
    }

    private static void p1New() {
        StreetNumbers x = new StreetNumbers();
        for (int what = 0; what < 6; what++) {
            due("new count " + what, x.count(what), 0);
        }
        due("new z", x.count(6), 1);
        due("new told", x.told(1), 0);
        due("new law 0", x.law(0, 5, 6, 7), 5);
        due("new untell 0", x.untell(0), 0);
        due("new untell 1", x.untell(1), 0);
        due("new restore", x.restore(), NONE);
        for (int sheet = 0; sheet < 4; sheet++) {
            due("new sheet", x.plates(sheet), NONE);
        }
        due("new body", x.body(0), NONE);
        StreetNumbers y = new StreetNumbers();
        x.build(0, 0, 5);
        x.seed(9);
        due("objects share nothing", y.count(0), 0);
        due("objects share no z", y.count(6), 1);
    }

    private static void p2Build() {
        StreetNumbers x = new StreetNumbers();
        due("first", x.build(69, 0, 999), 0);
        due("ahead of it", x.build(0, 0, 1), 1);
        due("between", x.build(35, 1, 500), 2);
        due("place of the first", x.houseIs(0, 3), 2);
        due("place of the second", x.houseIs(1, 3), 0);
        due("place of the third", x.houseIs(2, 3), 1);
        due("kind", x.houseIs(2, 0), 3);
        due("m", x.houseIs(2, 1), 5);
        due("plate", x.houseIs(2, 2), 500);
        due("km 70", x.build(70, 0, 1), BEYOND);
        due("km -1", x.build(-1, 0, 1), BEYOND);
        due("place 4", x.build(0, 4, 1), BEYOND);
        due("place -1", x.build(0, -1, 1), BEYOND);
        due("number 0", x.build(0, 0, 0), BEYOND);
        due("number 1000", x.build(0, 0, 1000), BEYOND);
        for (int v : WILD) {
            due("wild km", x.build(v, 0, 1), BEYOND);
            due("wild place", x.build(0, v, 1), BEYOND);
            due("wild number", x.build(0, 0, v), BEYOND);
        }
        for (int i = 3; i < 10; i++) {
            due("build " + i, x.build(0, i, 5), i);
        }
        due("BEYOND ahead of FULL", x.build(0, 11, 5), BEYOND);
        due("full", x.build(0, 10, 5), FULL);
        due("still ten", x.count(0), 10);
    }

    private static void p3HouseIs() {
        StreetNumbers x = new StreetNumbers();
        x.build(12, 0, 7);
        x.build(24, 0, 9);
        x.build(3, 2, 11);
        due("kind", x.houseIs(0, 0), 1);
        due("m", x.houseIs(0, 1), 2);
        due("plate", x.houseIs(0, 2), 7);
        due("place", x.houseIs(0, 3), 1);
        due("yards", x.houseIs(0, 4), 16);
        due("yards ahead", x.houseIs(0, 5), 8);
        due("yards ahead of the first", x.houseIs(1, 5), 0);
        due("yards ahead of the last", x.houseIs(2, 5), 24);
        due("what 6", x.houseIs(0, 6), BEYOND);
        due("what -1", x.houseIs(0, -1), BEYOND);
        due("h 3", x.houseIs(3, 0), BEYOND);
        due("h -1", x.houseIs(-1, 0), BEYOND);
        for (int v : WILD) {
            due("wild h", x.houseIs(v, 0), BEYOND);
            due("wild what", x.houseIs(0, v), BEYOND);
        }
        textOf(x, 1, "y*b+s");
        x.year(10);
        due("yards by a text", x.houseIs(0, 4), 19);
        due("yards held at 1", textOf(x, 1, "b-9"), 1);
        due("yards of 1 - 9", x.houseIs(0, 4), 1);
        textOf(x, 1, "y*9");
        due("yards held at 99", x.houseIs(0, 4), 99);
        due("yards ahead with a text", x.houseIs(2, 5), 72 + 99);
    }

    private static void p3Fronts() {
        int[] kms = {9, 19, 29, 39, 49, 59, 69, 0, 10, 20, 30, 40, 50, 60};
        int[] fronts = {15, 30, 13, 15, 40, 6, 20, 6, 12, 4, 6, 22, 2, 20};
        for (int i = 0; i < kms.length; i++) {
            StreetNumbers x = new StreetNumbers();
            x.build(kms[i], 0, 1);
            due("front of km " + kms[i], x.houseIs(0, 4), fronts[i]);
        }
        StreetNumbers x = new StreetNumbers();
        x.build(65, 0, 1);
        x.year(9);
        due("field in year 9", x.houseIs(0, 4), 24);
        x.year(9995);
        due("field in year 9995", x.houseIs(0, 4), 20);
    }

    private static void p4Standing() {
        StreetNumbers x = new StreetNumbers();
        due("nobody stands", x.standing(0), BEYOND);
        x.build(0, 0, 5);
        x.build(0, 0, 6);
        x.build(0, 1, 7);
        due("place 0", x.standing(0), 1);
        due("place 1", x.standing(1), 2);
        due("place 2", x.standing(2), 0);
        due("place 3", x.standing(3), BEYOND);
        due("place -1", x.standing(-1), BEYOND);
        for (int v : WILD) {
            due("wild place", x.standing(v), BEYOND);
        }
    }

    private static void p5Become() {
        StreetNumbers x = street(5, 9);
        due("becomes a field", x.become(1, 67), 0);
        due("kind", x.houseIs(1, 0), 6);
        due("m", x.houseIs(1, 1), 7);
        due("plate stays", x.houseIs(1, 2), 9);
        due("place stays", x.houseIs(1, 3), 1);
        due("becomes a shop", x.become(1, 20), 6);
        due("km 70", x.become(1, 70), BEYOND);
        due("km -1", x.become(1, -1), BEYOND);
        due("h 2", x.become(2, 0), BEYOND);
        for (int v : WILD) {
            due("wild h", x.become(v, 0), BEYOND);
            due("wild km", x.become(0, v), BEYOND);
        }
        due("still a shop", x.houseIs(1, 0), 2);
    }

    private static void p6As() {
        int[][] uppers = {{0}, {0, 1}, {0, 2}, {0, 3}, {0, 1, 4}, {0, 2, 5}, {0, 6}};
        StreetNumbers x = street(5);
        for (int kind = 0; kind < 7; kind++) {
            x.become(0, 10 * kind + 8);
            for (int upper = 0; upper < 7; upper++) {
                boolean is = false;
                for (int one : uppers[kind]) {
                    is |= one == upper;
                }
                due(kind + " as " + upper, x.as(0, upper), is ? 8 : KIND);
            }
        }
        due("kind 7", x.as(0, 7), BEYOND);
        due("kind -1", x.as(0, -1), BEYOND);
        due("h 1", x.as(1, 0), BEYOND);
        for (int v : WILD) {
            due("wild h", x.as(v, 0), BEYOND);
            due("wild kind", x.as(0, v), BEYOND);
        }
    }

    private static void p7Harm() {
        int[] numbers = {20, 13, 113, 8, 18, 4, 14, 21, 999};
        int[][] harms = {
            {0, 7, 93, 12, 2, 16, 6, 1, 979},
            {0, 57, 143, 12, 2, 16, 6, 1, 979},
            {0, 3, 46, 0, 0, 8, 3, 0, 489},
            {0, 10, 96, 12, 2, 16, 6, 4, 982},
            {0, 171, 429, 36, 6, 48, 18, 3, 999},
            {0, 3, 46, 0, 0, 28, 23, 0, 489},
            {0, 0, 0, 0, 0, 0, 0, 0, 0}};
        for (int kind = 0; kind < 7; kind++) {
            StreetNumbers x = new StreetNumbers();
            x.build(10 * kind + 3, 0, 20);
            for (int i = 0; i < numbers.length; i++) {
                due("harm to kind " + kind + " of " + numbers[i], x.harm(0, numbers[i]), harms[kind][i]);
            }
            due("plate stays", x.houseIs(0, 2), 20);
            due("no harm done", x.count(2), 0);
        }
        StreetNumbers x = new StreetNumbers();
        x.build(10, 0, 13);
        due("its own 13", x.harm(0, 13), 0);
        due("number 0", x.harm(0, 0), BEYOND);
        due("number 1000", x.harm(0, 1000), BEYOND);
        due("h 1", x.harm(1, 5), BEYOND);
        for (int v : WILD) {
            due("wild h", x.harm(v, 5), BEYOND);
            due("wild number", x.harm(0, v), BEYOND);
        }
        textOf(x, 0, "h*100+y*10+o");
        x.year(17);
        due("harm by a text", x.harm(0, 14), 100 + 30 + 13);
        due("none of its plate", x.harm(0, 13), 0);
        due("held at 999", x.harm(0, 99), 999);
        textOf(x, 0, "h-9");
        due("held at 0", x.harm(0, 14), 0);
    }

    private static void p8Renames() {
        StreetNumbers x = new StreetNumbers();
        x.build(40, 0, 20);
        due("gets 13", x.renames(0, 13), 171);
        due("plate", x.houseIs(0, 2), 13);
        due("done", x.count(2), 171);
        due("gets 13 again", x.renames(0, 13), 0);
        due("done stays", x.count(2), 171);
        due("gets 14", x.renames(0, 14), 3);
        due("done is more", x.count(2), 174);
        due("number 0", x.renames(0, 0), BEYOND);
        due("number 1000", x.renames(0, 1000), BEYOND);
        due("h 1", x.renames(1, 5), BEYOND);
        for (int v : WILD) {
            due("wild h", x.renames(v, 5), BEYOND);
            due("wild number", x.renames(0, v), BEYOND);
        }
        due("plate stays", x.houseIs(0, 2), 14);
        textOf(x, 0, "999");
        for (int i = 0; i < 99; i++) {
            x.renames(0, 1 + i % 2);
        }
        due("done below its most", x.count(2), 174 + 99 * 999);
        x.renames(0, 5);
        due("done held", x.count(2), 99999);
        due("harm still told", x.renames(0, 6), 999);
        due("done stays held", x.count(2), 99999);
    }

    private static void p9Year() {
        StreetNumbers x = new StreetNumbers();
        due("year 7", x.year(7), 0);
        due("year 9999", x.year(9999), 7);
        due("year 10000", x.year(10000), BEYOND);
        due("year -1", x.year(-1), BEYOND);
        for (int v : WILD) {
            due("wild year", x.year(v), BEYOND);
        }
        due("year 0", x.year(0), 9999);
        due("year is", x.count(1), 0);
    }

    private static void p10Feed() {
        StreetNumbers x = new StreetNumbers();
        due("n 0", x.feed(49, 0), BEYOND);
        due("n 9", x.feed(49, 9), BEYOND);
        for (int v : WILD) {
            due("wild n", x.feed(49, v), BEYOND);
        }
        due("one of a word", x.feed(0x3231L, 1), 1);
        due("two of a word", x.feed(0x7f353332L, 2), 3);
        due("tape", x.count(3), 3);
        due("123", x.text(0), 1);
        due("lowest first", x.law(0, 0, 0, 0), 123);
        due("eight", x.feed(0x3130302b3130302bL, 8), 8);
        for (int i = 2; i < 8; i++) {
            due("eight more", x.feed(-1L, 8), 8 * i);
        }
        due("past sixty", x.feed(0, 5), FULL);
        due("tape stays", x.count(3), 56);
        due("sixty", x.feed(Long.MIN_VALUE, 4), 60);
        due("BEYOND ahead of FULL", x.feed(0, 0), BEYOND);
        due("full", x.feed(0, 1), FULL);
    }

    private static void p11Text() {
        StreetNumbers x = new StreetNumbers();
        due("use 0", textOf(x, 0, "h+1"), 1);
        due("tape is empty", x.count(3), 0);
        due("in place of one ahead", textOf(x, 0, "h+2"), 1);
        due("the later", x.law(0, 5, 0, 0), 7);
        feedAll(x, "y");
        due("use 2", x.text(2), BEYOND);
        due("use -1", x.text(-1), BEYOND);
        for (int v : WILD) {
            due("wild use", x.text(v), BEYOND);
        }
        due("tape stays", x.count(3), 1);
        due("y is a name of both", x.text(1), 1);
        due("empty tape", x.text(0), -10);
        due("fault", textOf(x, 0, "h+"), -12);
        due("fault empties the tape", x.count(3), 0);
        due("the one ahead stays", x.law(0, 5, 0, 0), 7);
        due("a fault is no error", x.told(1), 2 + WILD.length);
        String most = "h+1+1+1+1+1+1+1+1+1+1+1+1+1+1+1+1+1+1+1+1+1+1+1+1+1+1+1+1+01";
        due("sixty bytes", feedAll(x, most), 60);
        due("text of sixty", x.text(0), 1);
        due("all of it", x.law(0, 5, 0, 0), 34);
    }

    private static void p11Faults() {
        String[] texts = {
            "", "+", "h+", "h++", "h)", "(h", "(h))", "()", "12345", "1234", "h h", "b", "hy", "h1", "1h",
            "1<2<3", "(1<2)<3", "1<2&3<4", "1<2+3=4", "1<2|", "!!!!!h", "!!!!!!h", "(((((h)))))", "((((((h",
            "!(!(!(h", "(!(!!h))+!(!(!!(", "!", "!+", "h!", "H", "h/0", "1-", "(1<2=", "o%y*h", "h&&o", "h||o",
            "\u0001", "\u00ff", "0000", "00000"};
        int[] faults = {
            0, 0, 2, 2, 1, 2, 3, 1, 4, -1, 1, 0, 1, 1, 1,
            3, -1, -1, 5, 4, -1, 5, -1, 5,
            5, 14, 1, 1, 1, 0, -1, 2, 4, -1, 2, 2,
            0, 0, -1, 4};
        for (int i = 0; i < texts.length; i++) {
            StreetNumbers x = new StreetNumbers();
            int want = faults[i] < 0 ? 1 : -10 - faults[i];
            due("text \"" + texts[i] + "\"", textOf(x, 0, texts[i]), want);
        }
        StreetNumbers x = new StreetNumbers();
        due("names of yards", textOf(x, 1, "y+b+s"), 1);
        due("h is no name of yards", textOf(x, 1, "y+h"), -12);
        due("o is no name of yards", textOf(x, 1, "o"), -10);
        due("s is no name of harm", textOf(x, 0, "s"), -10);
    }

    private static void p12Untell() {
        StreetNumbers x = new StreetNumbers();
        textOf(x, 0, "h*3");
        textOf(x, 1, "7");
        due("use 2", x.untell(2), BEYOND);
        due("use -1", x.untell(-1), BEYOND);
        for (int v : WILD) {
            due("wild use", x.untell(v), BEYOND);
        }
        due("there was", x.untell(0), 1);
        due("none any more", x.untell(0), 0);
        due("without it", x.law(0, 5, 0, 0), 5);
        due("the other stays", x.law(1, 50, 0, 0), 7);
        due("the other goes", x.untell(1), 1);
        due("without both", x.law(1, 50, 0, 0), 50);
    }

    private static void p13Law() {
        StreetNumbers x = new StreetNumbers();
        due("h held", x.law(0, 1000, 1, 1), 999);
        due("h below", x.law(0, MIN, 1, 1), 0);
        due("h", x.law(0, 999, 1, 1), 999);
        due("y held", x.law(1, 100, 1, 1), 99);
        due("y below", x.law(1, 0, 1, 1), 1);
        due("y", x.law(1, 99, 1, 1), 99);
        due("use 2", x.law(2, 0, 0, 0), BEYOND);
        for (int v : WILD) {
            due("wild use", x.law(v, 0, 0, 0), BEYOND);
        }
        String[] texts = {
            "h*100+y*10+o", "h-y-o", "h-(y-o)", "h/y/o", "h/y*o", "h%y", "h/0", "h%0", "h+1/0", "!h", "!!h", "!h+5",
            "h<y", "y<h", "h=h", "h>y", "h|0", "0|0", "h&y", "h&0", "1|0&0", "1=1&2", "h&y|0", "(0-h)/2+9",
            "(0-h)%4+9", "h<h", "h>h", "y>h", "h=y", "(0|h)+(0&h)", "h+y<o", "(1<2)<2", "0007", "9999-9000", "!(h-7)+!0", "h*h*h*h*h*h*h*h*h*h*h*h"};
        int[] gives = {
            732, 2, 6, 1, 4, 1, 0, 0, 7, 0, 1, 5,
            0, 1, 1, 1, 1, 0, 1, 0, 1, 1, 1, 6,
            6, 0, 0, 0, 0, 1, 0, 1, 7, 999, 2, 999};
        for (int i = 0; i < texts.length; i++) {
            due("tell " + texts[i], textOf(x, 0, texts[i]), 1);
            due("law " + texts[i], x.law(0, 7, 3, 2), gives[i]);
        }
        textOf(x, 0, "h/y");
        due("least by -1", x.law(0, MIN, -1, 0), 0);
        textOf(x, 0, "h%y");
        due("rest of the least by -1", x.law(0, MIN, -1, 0), 0);
        textOf(x, 0, "h+y");
        due("sum wraps", x.law(0, MAX, 1, 0), 0);
        due("sum wraps to small", x.law(0, MIN, MIN + 5, 0), 5);
        textOf(x, 0, "h-y");
        due("difference wraps", x.law(0, MIN, MAX, 0), 1);
        textOf(x, 0, "h*y");
        due("product wraps", x.law(0, 65537, 65536, 0), 999);
        due("product wraps to 0", x.law(0, 65536, 65536, 0), 0);
        textOf(x, 1, "y*100+b*10+s-700");
        due("names of yards in order", x.law(1, 7, 3, 2), 32);
        x.build(0, 0, 5);
        due("done stays", x.count(2), 0);
    }

    private static void p14Renumber() {
        StreetNumbers x = new StreetNumbers();
        due("no houses", x.renumber(50), 0);
        x.build(0, 0, 5);
        x.build(10, 0, 5);
        x.build(20, 2, 28);
        due("by 10", x.renumber(10), 5 + 15 + 1);
        due("place 0", x.houseIs(1, 2), 10);
        due("place 1", x.houseIs(0, 2), 20);
        due("place 2", x.houseIs(2, 2), 30);
        due("done", x.count(2), 21);
        due("by 10 again", x.renumber(10), 0);
        due("by 50", x.renumber(50), 40 + 80 + 60);
        due("by 1", x.renumber(1), 49 + 98 + 73);
        due("gap 0", x.renumber(0), BEYOND);
        due("gap 51", x.renumber(51), BEYOND);
        for (int v : WILD) {
            due("wild gap", x.renumber(v), BEYOND);
        }
        due("done is all", x.count(2), 21 + 180 + 220);
    }

    private static void p15Would() {
        StreetNumbers x = new StreetNumbers();
        due("no houses", x.would(1), 0);
        x.build(0, 0, 5);
        x.build(10, 0, 5);
        x.build(20, 2, 28);
        due("by 10", x.would(10), 21);
        due("by 13", x.would(13), 58 + 21 + 5);
        due("by 50", x.would(50), 45 + 95 + 61);
        due("only thought", x.houseIs(0, 2), 5);
        due("nothing done", x.count(2), 0);
        due("gap 0", x.would(0), BEYOND);
        due("gap 51", x.would(51), BEYOND);
        for (int v : WILD) {
            due("wild gap", x.would(v), BEYOND);
        }
    }

    private static void p16Gap() {
        StreetNumbers x = street(7, 14, 21);
        due("which", x.gap(0), 7);
        due("how much", x.gap(1), 0);
        StreetNumbers y = street(10, 13);
        due("of several the least", y.gap(0), 7);
        due("4 and 1, as 3 and 3 .. ", y.gap(1), 4);
        due("the first of gaps", street(1, 2).gap(0), 1);
        due("the second of gaps", street(2, 4).gap(0), 2);
        StreetNumbers z = street(999);
        due("the most", z.gap(0), 50);
        due("how much then", z.gap(1), 949);
        StreetNumbers f = new StreetNumbers();
        f.build(60, 0, 30);
        due("all alike", f.gap(0), 1);
        due("what 2", x.gap(2), BEYOND);
        due("what -1", x.gap(-1), BEYOND);
        for (int v : WILD) {
            due("wild what", x.gap(v), BEYOND);
        }
        due("only thought", x.houseIs(0, 2), 7);
    }

    private static void p17Least() {
        StreetNumbers x = street(5, 5, 5);
        due("three at 5", x.least(-1), 2);
        due("the last", x.least(2), 6);
        due("the middle", x.least(1), 5);
        due("the first", x.least(0), 4);
        due("house 3", x.least(3), NONE);
        due("house 9", x.least(9), NONE);
        due("what 10", x.least(10), BEYOND);
        due("what -2", x.least(-2), BEYOND);
        for (int v : WILD) {
            if (v != -1) {
                due("wild what", x.least(v), BEYOND);
            }
        }
        StreetNumbers two = street(5, 5);
        due("two at 5", two.least(-1), 1);
        due("of 4, 5 and 5, 6 the last the least", two.least(1), 5);
        due("and the first", two.least(0), 4);
        StreetNumbers y = new StreetNumbers();
        y.build(0, 0, 30);
        y.build(0, 0, 10);
        y.build(0, 1, 20);
        due("rising already", y.least(-1), 0);
        due("by house, not by place", y.least(0), 30);
        due("the one between", y.least(2), 20);
        StreetNumbers z = street(999, 999, 999);
        due("held below 120", z.least(-1), 879 + 880 + 881);
        due("last", z.least(2), 120);
        due("first", z.least(0), 118);
        StreetNumbers f = new StreetNumbers();
        for (int i = 0; i < 10; i++) {
            f.build(60, i, 500);
        }
        due("fields mind nothing", f.least(-1), 0);
        due("least each", f.least(9), 10);
        due("and first", f.least(0), 1);
        StreetNumbers one = street(120);
        due("one at 120", one.least(0), 120);
        due("one at 121", street(121).least(-1), 1);
        StreetNumbers t = street(9, 9);
        textOf(t, 0, "500");
        due("one keeps its plate", t.least(-1), 500);
        due("the last at 9, of both the lesser", t.least(1), 9);
        due("the first least", t.least(0), 1);
    }

    private static void p18Between() {
        StreetNumbers x = new StreetNumbers();
        due("no houses", x.between(0), 1);
        due("place 1 of none", x.between(1), BEYOND);
        x = street(7, 9, 10, 500, 20);
        due("ahead of 7", x.between(0), 3);
        due("of 7 and 9", x.between(1), 8);
        due("of 9 and 10", x.between(2), NONE);
        due("of 10 and 500", x.between(3), 255);
        due("of 500 and 20", x.between(4), NONE);
        due("behind all", x.between(5), 21);
        due("place 6", x.between(6), BEYOND);
        due("place -1", x.between(-1), BEYOND);
        for (int v : WILD) {
            due("wild place", x.between(v), BEYOND);
        }
        due("behind 998", street(998).between(1), 999);
        due("behind 999", street(999).between(1), NONE);
        due("ahead of 1", street(1).between(0), NONE);
        due("ahead of 2", street(2).between(0), 1);
        due("like plates", street(5, 5).between(1), NONE);
        StreetNumbers full = street(1, 2, 3, 4, 5, 6, 7, 8, 9, 10);
        due("full, but thought", full.between(10), 11);
    }

    private static void p19Fewest() {
        due("none", street().fewest(), 0);
        due("one", street(5).fewest(), 0);
        due("rising", street(1, 2, 3).fewest(), 0);
        due("falling", street(3, 2, 1).fewest(), 2);
        due("like", street(4, 4, 4).fewest(), 2);
        due("mixed", street(10, 1, 2, 20, 3, 4).fewest(), 2);
        due("one in the way", street(1, 999, 2, 3).fewest(), 1);
        due("ten", street(5, 1, 6, 2, 7, 3, 8, 4, 9, 10).fewest(), 4);
    }

    private static void p20Search() {
        StreetNumbers x = new StreetNumbers();
        due("none to look at", x.search(5, 1), 0);
        due("none found", x.search(5, 0), NONE);
        x.build(0, 0, 30);
        x.build(0, 0, 20);
        x.build(0, 0, 10);
        due("the middle", x.search(20, 0), 1);
        due("in one look", x.search(20, 1), 1);
        due("the first", x.search(10, 0), 2);
        due("in two", x.search(10, 1), 2);
        due("the last", x.search(30, 0), 0);
        due("not found", x.search(25, 0), NONE);
        due("after two", x.search(25, 1), 2);
        StreetNumbers y = street(1, 2, 3, 4);
        due("of four, the second first", y.search(2, 1), 1);
        due("of four, the last in three", y.search(4, 1), 3);
        StreetNumbers z = street(50, 20, 10);
        due("lost by the order", z.search(50, 0), NONE);
        due("number 0", x.search(0, 0), BEYOND);
        due("number 1000", x.search(1000, 0), BEYOND);
        due("what 2", x.search(5, 2), BEYOND);
        due("what -1", x.search(5, -1), BEYOND);
        for (int v : WILD) {
            due("wild number", x.search(v, 1), BEYOND);
            due("wild what", x.search(5, v), BEYOND);
        }
    }

    private static void p21Odds() {
        StreetNumbers x = new StreetNumbers();
        due("no houses", x.odds(0), STATE);
        due("no houses, part 1", x.odds(1), STATE);
        due("BEYOND ahead of STATE", x.odds(2), BEYOND);
        x = street(1, 2, 3, 4);
        due("all: 1", x.odds(0), 1);
        due("by 1", x.odds(1), 1);
        x = street(5, 5, 5, 5);
        due("one of like plates", x.odds(0), 1);
        due("by 4", x.odds(1), 4);
        x = street(9, 1, 2, 3, 4, 8);
        due("four of six: 2, 3, 4, 8", x.odds(0), 2);
        due("in lowest terms", x.odds(1), 3);
        x = street(9, 7, 8, 10, 4);
        due("two of five: 8, 10", x.odds(0), 2);
        due("by five", x.odds(1), 5);
        due("part -1", x.odds(-1), BEYOND);
        for (int v : WILD) {
            due("wild part", x.odds(v), BEYOND);
        }
    }

    private static void p22Order() {
        due("none", street().order(), 1);
        due("one", street(5).order(), 1);
        due("rising", street(1, 2, 999).order(), 1);
        due("like", street(1, 2, 2).order(), 0);
        due("falling at last", street(1, 3, 2).order(), 0);
        due("falling at first", street(2, 1, 3).order(), 0);
        StreetNumbers x = new StreetNumbers();
        x.build(0, 0, 9);
        x.build(0, 0, 3);
        due("by place", x.order(), 1);
    }

    private static void p23Fits() {
        StreetNumbers x = street(10, 20);
        sheetOf(x, 0, 16, 4, 8);
        due("by 6 and by 14", x.fits(0, 0), 2);
        due("6: 4 and 8; 14: 4 and 8", x.fits(0, 1), 6);
        sheetOf(x, 1, 32, 4);
        due("one number of two houses", x.fits(1, 0), 2);
        due("the least", x.fits(1, 1), 6);
        sheetOf(x, 2, 8);
        due("no numbers", x.fits(2, 0), 50);
        due("no numbers, the least", x.fits(2, 1), 1);
        sheetOf(x, 0, 16, 4, 9);
        due("none", x.fits(0, 0), 0);
        due("none, the least", x.fits(0, 1), NONE);
        sheetOf(x, 0, 16, 4, 8, 0);
        due("a number without a house", x.fits(0, 0), 0);
        sheetOf(x, 0, 16, -4 & 0xffff, 8);
        due("not the lowest bits of harm", x.fits(0, 0), 0);
        due("missing", x.fits(3, 0), NONE);
        due("sheet 4", x.fits(4, 0), BEYOND);
        due("sheet -1", x.fits(-1, 0), BEYOND);
        due("what 2", x.fits(0, 2), BEYOND);
        due("what -1", x.fits(0, -1), BEYOND);
        due("BEYOND ahead of NONE", x.fits(3, 2), BEYOND);
        for (int v : WILD) {
            due("wild sheet", x.fits(v, 0), BEYOND);
            due("wild what", x.fits(0, v), BEYOND);
        }
        due("only thought", x.houseIs(0, 2), 10);
        StreetNumbers empty = new StreetNumbers();
        empty.sheet(0, 8, 0);
        due("nothing to tell", empty.fits(0, 0), 50);
    }

    private static void p24Loose() {
        StreetNumbers x = new StreetNumbers();
        int z = 1;
        int[] place = new int[12];
        int[] kind = new int[12];
        for (int i = 0; i < 12; i++) {
            z = z * 1103515245 + 12345;
            place[i] = (z >>> 8) % (1 + Math.min(i, 10));
            z = z * 1103515245 + 12345;
            kind[i] = (z >>> 8) % 7;
            due("a year", x.loose(1), i < 10 ? 1 : 0);
            due("z goes on", x.count(6), z);
            due("year", x.count(1), i + 1);
            if (i < 10) {
                due("place", x.houseIs(i, 3), place[i]);
                due("kind", x.houseIs(i, 0), kind[i]);
                due("m", x.houseIs(i, 1), 0);
            }
        }
        due("still rising", x.order(), 1);
        due("ten", x.count(0), 10);
        due("n 0", x.loose(0), BEYOND);
        due("n 31", x.loose(31), BEYOND);
        for (int v : WILD) {
            due("wild n", x.loose(v), BEYOND);
        }
        x.year(9969);
        due("thirty years", x.loose(30), 0);
        due("year 9999", x.count(1), 9999);
        z = x.count(6);
        due("one more", x.loose(1), STATE);
        x.year(9970);
        due("one too many", x.loose(30), STATE);
        due("BEYOND ahead of STATE", x.loose(31), BEYOND);
        due("year stays", x.count(1), 9970);
        due("z stays", x.count(6), z);
        StreetNumbers y = street(1, 2);
        int[] seeds = {0, 0, 0};
        for (int s = 0; s < 100000 && seeds[0] * seeds[1] * seeds[2] == 0; s++) {
            seeds[((s * 1103515245 + 12345) >>> 8) % 3] = s;
        }
        y.seed(seeds[1]);
        due("no room between", y.loose(1), 1);
        due("all got tens", y.houseIs(0, 2), 10);
        due("all got tens, the next", y.houseIs(1, 2), 20);
        due("the number between", y.houseIs(2, 2), 15);
        due("harm of it", y.count(2), 9 + 18);
        y = street(1, 2);
        y.seed(seeds[2]);
        y.loose(1);
        due("room behind", y.houseIs(2, 2), 3);
        due("no harm", y.count(2), 0);
    }

    private static void p25Seed() {
        StreetNumbers x = new StreetNumbers();
        due("first z", x.seed(MIN), 1);
        due("then", x.seed(BEYOND), MIN);
        due("no error", x.seed(0), BEYOND);
        due("z", x.count(6), 0);
        due("none told", x.told(1), 0);
        x.loose(1);
        due("from 0", x.count(6), 12345 * 1103515245 + 12345);
    }

    private static void p26Voice() {
        int[][] due = {
            {12, 24, 19, 3, 0},
            {8, 16, 11, 3 + (1 + 2 - 4) * 2, 0},
            {12, -24, -29, 3, 0},
            {12, 24, 9, 3, 0},
            {24, 48, 43 ^ 2, 3 + (1 + 2 - 4) * 3 * 2, 0},
            {12, -26, -31, 3, 0},
            {9, 23, 18, 3, 0}};
        for (int kind = 0; kind < 7; kind++) {
            StreetNumbers x = street(1, 2, 3);
            x.become(2, 10 * kind + 5);
            for (int voice = 0; voice < 4; voice++) {
                due("voice " + voice + " of kind " + kind, x.voice(2, voice, 10), due[kind][voice]);
            }
        }
        StreetNumbers x = street(1, 2, 3);
        x.become(2, 2);
        due("parted", x.voice(2, 3, 10), PARTED);
        x.become(2, 12);
        due("a villa parted", x.voice(2, 3, 10), PARTED);
        x.become(2, 42);
        due("a manor parted", x.voice(2, 3, 10), PARTED);
        due("told", x.told(6), 3);
        due("rings after", x.voice(2, 0, 1), (1 + 2 - 4) * 3);
        x.become(2, 1);
        due("by -1", x.voice(2, 3, 7), -7);
        due("the least by -1", x.voice(2, 3, MIN), MIN);
        due("wraps", x.voice(2, 0, MAX), MIN + 1);
        due("may look like an error", x.voice(2, 0, BEYOND - 2), BEYOND);
        due("and is none", x.told(1), 0);
        x.become(2, 35);
        due("corner halves toward 0", x.voice(2, 2, -3), (-1 + 2) * 2 - 5);
        due("voice 4", x.voice(0, 4, 1), BEYOND);
        due("voice -1", x.voice(0, -1, 1), BEYOND);
        due("h 3", x.voice(3, 0, 1), BEYOND);
        for (int v : WILD) {
            due("wild h", x.voice(v, 0, 1), BEYOND);
            due("wild voice", x.voice(0, v, 1), BEYOND);
        }
    }

    private static void dueTrace(StreetNumbers x, String what, int... bodies) {
        due(what + ": how many", x.count(5), bodies.length);
        for (int i = 0; i < bodies.length; i++) {
            due(what + ": body " + i, x.body(i), bodies[i]);
        }
        due(what + ": behind all", x.body(bodies.length), NONE);
    }

    private static void p27Body() {
        int[][][] bodies = {
            {{10}, {11, 10}, {12, 11, 10}, {13}},
            {{20, 10}, {11, 20, 10}, {12, 11, 20, 10}, {21, 13, 11, 20, 10}},
            {{10}, {30, 11, 10}, {12, 30, 11, 10}, {13}},
            {{10}, {11, 10}, {40, 12, 11, 10}, {13}},
            {{50, 20, 10}, {11, 50, 20, 10}, {51, 12, 11, 50, 20, 10}, {21, 13, 11, 50, 20, 10}},
            {{10}, {60, 30, 11, 10}, {12, 60, 30, 11, 10}, {13}},
            {{70}, {71, 11, 70}, {12, 71, 11, 70}, {13}}};
        for (int kind = 0; kind < 7; kind++) {
            StreetNumbers x = street(1);
            x.become(0, 10 * kind + 5);
            for (int voice = 0; voice < 4; voice++) {
                x.voice(0, voice, 10);
                dueTrace(x, "voice " + voice + " of kind " + kind, bodies[kind][voice]);
            }
        }
        StreetNumbers x = street(1);
        x.voice(0, 2, 1);
        x.voice(1, 0, 1);
        x.voice(0, 4, 1);
        dueTrace(x, "one beyond changes nothing", 12, 11, 10);
        traceOfParted(x);
        due("body -1", x.body(-1), NONE);
        for (int v : WILD) {
            due("wild body", x.body(v), NONE);
        }
    }

    /** HOUSE 0 with m 0 parts by 0: THE TRACE is of that voice() and ends with the BODY that parted. */
    private static void traceOfParted(StreetNumbers x) {
        int[][] bodies = {{13}, {21, 13}, {13}, {13}, {21, 13}, {13}, {13}};
        for (int kind = 0; kind < 7; kind++) {
            x.become(0, 10 * kind);
            x.voice(0, 2, 1);
            due("kind " + kind + " parts", x.voice(0, 3, 1), PARTED);
            dueTrace(x, "one of kind " + kind + " that parted", bodies[kind]);
            x.voice(0, 4, 1);
            dueTrace(x, "one of kind " + kind + " that parted, then one beyond", bodies[kind]);
        }
        x.image();
        x.voice(0, 0, 1);
        x.restore();
        dueTrace(x, "none comes back with an image", 70);
        x.voice(0, 3, 1);
        x.become(0, 5);
        x.voice(0, 3, 1);
        dueTrace(x, "one that answers, after one that parted", 13);
        due("and it is no error", x.told(6), 8);
        x.become(0, 10);
        x.voice(0, 3, 1);
        x.become(0, 15);
        due("a villa that parts, after one that parted", x.voice(0, 3, 10), 2 + (1 - 4) * 2);
        dueTrace(x, "all of its bodies", 21, 13, 11, 20, 10);
    }

    private static void p28Sheet() {
        StreetNumbers x = street(1, 2);
        due("8 bits", x.sheet(0, 8, 24), 1);
        due("16 bits", x.sheet(1, 16, 0), 1);
        due("32 bits", x.sheet(3, 32, 1), 1);
        due("missing again", x.sheet(3, 0, MIN), 1);
        due("is missing", x.put(3, 0, 1), NONE);
        due("missing, too long", x.sheet(3, 0, 25), 1);
        due("bits 7", x.sheet(0, 7, 1), BEYOND);
        due("bits 64", x.sheet(0, 64, 1), BEYOND);
        due("bits -8", x.sheet(0, -8, 1), BEYOND);
        due("sheet 4", x.sheet(4, 8, 1), BEYOND);
        due("sheet -1", x.sheet(-1, 0, 1), BEYOND);
        due("n -1", x.sheet(0, 8, -1), STATE);
        due("n 25", x.sheet(0, 8, 25), BEYOND);
        due("BEYOND of bits ahead of STATE", x.sheet(0, 7, -1), BEYOND);
        due("BEYOND of the sheet ahead of STATE", x.sheet(4, 8, -1), BEYOND);
        due("24 numbers stay", x.put(0, 23, 1), 1);
        due("no 25th", x.put(0, 24, 1), BEYOND);
        due("anew", x.sheet(0, 8, 24), 1);
        due("all 0", x.fits(0, 0), 0);
        due("0 is no plate", x.plates(0), 0);
        x.put(0, 0, 5);
        due("again", x.sheet(0, 8, 2), 1);
        due("0 again", x.plates(0), 0);
        for (int v : WILD) {
            due("wild sheet", x.sheet(v, 8, 1), BEYOND);
            due("wild bits", x.sheet(0, v, 1), BEYOND);
            due("wild n", x.sheet(0, 8, v), v < 0 ? STATE : BEYOND);
        }
    }

    private static void p29Put() {
        StreetNumbers x = street(1, 2, 3);
        x.sheet(0, 8, 3);
        x.sheet(1, 16, 3);
        x.sheet(2, 32, 3);
        due("cut to 8 bits", x.put(0, 0, 256 + 77), 1);
        due("8 bits", x.plates(0), 1);
        due("plate", x.houseIs(0, 2), 77);
        due("cut to 16 bits", x.put(1, 0, -65536 + 300), 1);
        x.plates(1);
        due("16 bits", x.houseIs(0, 2), 300);
        due("32 bits", x.put(2, 0, 65536 + 300), 1);
        due("not cut", x.plates(2), 0);
        p29Signs();
        due("missing", x.put(3, 0, 1), NONE);
        due("missing, no such number", x.put(3, -1, 1), NONE);
        due("sheet 4", x.put(4, 0, 1), BEYOND);
        due("sheet -1", x.put(-1, 0, 1), BEYOND);
        due("number 3", x.put(0, 3, 1), BEYOND);
        due("number -1", x.put(0, -1, 1), BEYOND);
        for (int v : WILD) {
            due("wild sheet", x.put(v, 0, 1), BEYOND);
            due("wild number", x.put(0, v, 1), BEYOND);
            due("wild v", x.put(0, 1, v), 1);
        }
    }

    /** Numbers of 8 and 16 bits have a sign, as those of 32 have, wherever they are looked at. */
    private static void p29Signs() {
        int[][] signed = {{8, 127, 1}, {8, 128, 0}, {8, 200, 0}, {8, 255, 0}, {8, -1, 0}, {8, 256, 0}, {8, 257, 1},
            {8, -128, 0}, {8, -129, 1}, {16, 999, 1}, {16, 128, 1}, {16, 32768 + 5, 0}, {16, 65535, 0}, {16, -1, 0},
            {16, 65536 + 5, 1}, {16, -65536 + 999, 1}, {32, -1, 0}, {32, 999, 1}};
        for (int[] one : signed) {
            StreetNumbers x = street(500);
            sheetOf(x, 0, one[0], one[1]);
            due("plates of " + one[1] + " in " + one[0] + " bits", x.plates(0), one[2]);
            sheetOf(x, 1, one[0], 1);
            x.move(0, 0, 1, 0, 1);
            due("plates of it when it moved", x.plates(1), one[2]);
        }
        StreetNumbers x = street(300);
        sheetOf(x, 0, 8, -1 + 256);
        textOf(x, 0, "255");
        due("harm of 255 doesn't fit 8 bits", x.fits(0, 0), 0);
        sheetOf(x, 0, 16, 255);
        due("it fits 16 bits", x.fits(0, 0), 50);
        x = street(1, 2, 3, 4);
        textOf(x, 1, "64");
        sheetOf(x, 0, 8, 0, 64, 128, 192);
        due("yards of 128 are not right in 8 bits", x.judge(0), 2);
        sheetOf(x, 0, 16, 0, 64, 128, 192);
        due("they are in 16 bits", x.judge(0), 4);
    }

    private static void p30Move() {
        StreetNumbers x = street(1, 2, 3, 4, 5);
        sheetOf(x, 0, 16, 11, 12, 13, 14, 15);
        sheetOf(x, 1, 16, 21, 22, 23);
        sheetOf(x, 2, 32, 31, 32, 33);
        due("to another", x.move(0, 3, 1, 1, 2), 2);
        duePlates(x, 1, 21, 14, 15);
        due("upward in itself", x.move(0, 0, 0, 1, 4), 4);
        duePlates(x, 0, 11, 11, 12, 13, 14);
        due("downward in itself", x.move(0, 1, 0, 0, 4), 4);
        duePlates(x, 0, 11, 12, 13, 14, 14);
        due("none", x.move(0, 5, 1, 3, 0), 0);
        due("i behind the end", x.move(0, 6, 1, 0, 0), BEYOND);
        due("j behind the end", x.move(0, 0, 1, 4, 0), BEYOND);
        due("unlike bits", x.move(0, 0, 2, 0, 1), KIND);
        due("KIND ahead of BEYOND of n", x.move(0, 0, 2, 0, -1), KIND);
        due("missing", x.move(0, 0, 3, 0, 1), NONE);
        due("missing first", x.move(3, 0, 0, 0, 1), NONE);
        due("NONE ahead of KIND", x.move(3, 0, 2, 0, 1), NONE);
        due("both missing", x.move(3, 0, 3, 0, 0), NONE);
        due("sheet 4 ahead of NONE", x.move(3, 0, 4, 0, 1), BEYOND);
        due("sheet -1", x.move(-1, 0, 0, 0, 1), BEYOND);
        due("n -1", x.move(0, 0, 1, 0, -1), BEYOND);
        due("i -1", x.move(0, -1, 1, 0, 1), BEYOND);
        due("j -1", x.move(0, 0, 1, -1, 1), BEYOND);
        due("too many for the one", x.move(1, 1, 0, 0, 3), BEYOND);
        due("too many for the other", x.move(0, 0, 1, 1, 3), BEYOND);
        for (int v : WILD) {
            due("wild sheet", x.move(v, 0, 0, 0, 1), BEYOND);
            due("wild i", x.move(0, v, 1, 0, 1), BEYOND);
            due("wild other", x.move(0, 0, v, 0, 1), BEYOND);
            due("wild j", x.move(0, 0, 1, v, 1), BEYOND);
            due("wild n", x.move(0, 1, 1, 1, v), BEYOND);
        }
        duePlates(x, 1, 21, 14, 15);
    }

    private static void duePlates(StreetNumbers x, int sheet, int... plates) {
        due("plates of sheet " + sheet, x.plates(sheet), plates.length);
        for (int h = 0; h < plates.length; h++) {
            due("plate " + h + " by sheet " + sheet, x.houseIs(h, 2), plates[h]);
        }
    }

    private static void p31Plates() {
        StreetNumbers x = new StreetNumbers();
        x.build(0, 0, 1);
        x.build(0, 0, 2);
        x.build(0, 0, 3);
        sheetOf(x, 0, 16, 999, 1, 5, 6);
        due("more than houses", x.plates(0), 3);
        due("by house, not by place", x.houseIs(0, 2), 999);
        due("last", x.houseIs(2, 2), 5);
        due("done stays", x.count(2), 0);
        sheetOf(x, 0, 16, 40, 1000, 50);
        due("1000 stops", x.plates(0), 1);
        due("first became", x.houseIs(0, 2), 40);
        due("second stays", x.houseIs(1, 2), 1);
        due("third stays", x.houseIs(2, 2), 5);
        sheetOf(x, 0, 32, -5);
        due("below 1", x.plates(0), 0);
        due("no error", x.told(1), 0);
        due("missing", x.plates(1), NONE);
        due("sheet 4", x.plates(4), BEYOND);
        for (int v : WILD) {
            due("wild sheet", x.plates(v), BEYOND);
        }
    }

    private static void p32Judge() {
        StreetNumbers x = new StreetNumbers();
        x.build(2, 0, 1);
        x.build(10, 0, 2);
        x.build(20, 2, 3);
        sheetOf(x, 0, 8, 0, 12, 20);
        due("all right", x.judge(0), 3);
        sheetOf(x, 0, 8, 0, 12, 21);
        due("two right", x.judge(0), 2);
        sheetOf(x, 0, 8, 0, 11, 20);
        due("from the first on", x.judge(0), 1);
        sheetOf(x, 0, 8, 1, 12, 20);
        due("none", x.judge(0), 0);
        sheetOf(x, 0, 8, 0, 12, 20, 24, 24);
        due("no house there", x.judge(0), 3);
        sheetOf(x, 0, 8, 0, 12);
        due("fewer numbers", x.judge(0), 2);
        textOf(x, 1, "5");
        sheetOf(x, 0, 32, 0, 5, 10);
        due("by a text", x.judge(0), 3);
        due("missing", x.judge(1), NONE);
        due("sheet 4", x.judge(4), BEYOND);
        for (int v : WILD) {
            due("wild sheet", x.judge(v), BEYOND);
        }
    }

    private static void p33Image() {
        StreetNumbers x = street(5);
        due("first", x.image(), 1);
        x.renames(0, 9);
        due("second", x.image(), 2);
        x.renames(0, 11);
        x.restore();
        due("in place of one ahead", x.houseIs(0, 2), 9);
        due("how often is not kept", x.image(), 3);
    }

    private static void p34Restore() {
        StreetNumbers x = street(5, 9);
        due("none", x.restore(), NONE);
        x.become(0, 13);
        x.build(24, 1, 7);
        x.year(33);
        x.seed(44);
        x.renames(1, 10);
        textOf(x, 0, "h*2");
        textOf(x, 1, "y+b");
        x.feed('3', 1);
        x.tell(5);
        x.tell(6);
        sheetOf(x, 0, 8, 1);
        x.voice(0, 0, 1);
        x.image();
        x.become(0, 60);
        x.build(0, 0, 1);
        x.renumber(10);
        x.year(1);
        x.seed(2);
        x.text(0);
        x.untell(1);
        x.feed(-1, 8);
        x.check();
        x.sheet(0, 8, 2);
        x.voice(1, 1, 1);
        x.told(9);
        for (int i = 0; i < 2; i++) {
            due("the year", x.restore(), 33);
            due("houses", x.count(0), 3);
            due("done", x.count(2), 1);
            due("tape", x.count(3), 1);
            due("waiting", x.count(4), 2);
            due("z", x.count(6), 44);
            due("kind", x.houseIs(0, 0), 1);
            due("m", x.houseIs(0, 1), 3);
            due("plate", x.houseIs(1, 2), 10);
            due("place", x.houseIs(1, 3), 2);
            due("text 0", x.law(0, 7, 0, 0), 14);
            due("text 1", x.law(1, 7, 3, 0), 10);
            due("the tape's byte", x.text(0), 1);
            due("is 3", x.law(0, 0, 0, 0), 3);
            due("what waits: 5, for house 0", x.check(), 2);
            x.tell(4);
            due("sheets stay", x.put(0, 1, 1), 1);
            due("trace stays", x.count(5), 2);
            due("told stays", x.told(1), 1);
            due("how often stays", x.told(2), 1);
            x.build(0, 0, 3);
            x.year(5);
        }
    }

    private static void p35Tell() {
        StreetNumbers x = new StreetNumbers();
        for (int i = 1; i <= 24; i++) {
            due("one more", x.tell(i % 2 == 0 ? MIN : MAX), i);
        }
        due("full", x.tell(1), FULL);
        due("24", x.count(4), 24);
        x.check();
        due("again", x.tell(BEYOND), 1);
    }

    private static void p36Check() {
        StreetNumbers x = new StreetNumbers();
        due("none wait", x.check(), 0);
        x.tell(1);
        due("no house", x.check(), 1);
        due("none wait then", x.count(4), 0);
        x.build(0, 0, 7);
        x.build(0, 0, 9);
        x.tell(7);
        x.tell(9);
        due("so, by house", x.check(), 0);
        x.tell(7);
        due("fewer", x.check(), 0);
        x.tell(7);
        x.tell(8);
        due("the second", x.check(), 2);
        x.tell(7);
        x.tell(9);
        x.tell(0);
        due("no third house", x.check(), 3);
        x.tell(9);
        x.tell(7);
        due("the first", x.check(), 1);
    }

    private static void p37Count() {
        StreetNumbers x = street(1, 2);
        x.year(8);
        x.renames(0, 6);
        x.feed(0, 3);
        x.tell(1);
        x.voice(0, 1, 1);
        x.seed(BEYOND);
        int[] counts = {2, 8, 5, 3, 1, 2, BEYOND};
        for (int what = 0; what < 7; what++) {
            due("count " + what, x.count(what), counts[what]);
        }
        due("z is no error", x.told(1), 0);
        due("what 7", x.count(7), BEYOND);
        due("what -1", x.count(-1), BEYOND);
        for (int v : WILD) {
            due("wild what", x.count(v), BEYOND);
        }
    }

    private static void p38Told() {
        StreetNumbers x = new StreetNumbers();
        for (int k = 1; k <= 6; k++) {
            due("told " + k, x.told(k), 0);
        }
        x.standing(0);
        x.body(0);
        x.restore();
        x.odds(0);
        for (int i = 0; i < 10; i++) {
            x.build(0, 0, 1);
        }
        x.build(0, 0, 1);
        x.as(0, 1);
        x.voice(0, 3, 1);
        int[] told = {1, 2, 1, 1, 1, 1};
        for (int k = 1; k <= 6; k++) {
            due("now told " + k, x.told(k), told[k - 1]);
        }
        due("k 0", x.told(0), BEYOND);
        due("k 7", x.told(7), BEYOND);
        due("k -1", x.told(-1), BEYOND);
        due("counted, too", x.told(1), 4);
        for (int v : WILD) {
            due("wild k", x.told(v), BEYOND);
        }
        due("all counted", x.told(1), 4 + WILD.length);
    }
}
