/** Boundary cases of promises 14 to 25, and of Terms 1 and 3: each sentence that names one, with tests of its own. */
public final class NumberingEdges extends Given {
    private static final Checks checks = new Checks("NumberingEdges");

    private static void due(String call, long got, long want) {
        checks.due(call, got, want);
    }

    public static void main(String[] args) {
        gaps();
        renumberedFromTheChurchOn();
        wouldIsOnlyThought();
        gapOfLeast();
        gapOfSeveral();
        whatOfGap();
        leastNumbers();
        leastOfTen();
        leastOfSeveral();
        whatOfLeast();
        placesBetween();
        oneOrTwoAbove();
        behindAll();
        fewestPlates();
        middles();
        leftOrRight();
        numbersOfSearch();
        oddsOfNoHouses();
        oddsInLowestTerms();
        rising();
        fitsOfGaps();
        fitsWithoutOne();
        fitsOfNoHouses();
        fitsOfMoreNumbers();
        sheetsOfFits();
        yearsOfLoose();
        lastYear();
        drawsThatWrap();
        theTenthByDraws();
        noneBetweenByDraws();
        harmByDraws();
        anySeed();
        checks.end();
    }

    /** A gap (1 .. 50). */
    private static void gaps() {
        for (int n : new int[] {0, 1, 10}) {
            StreetNumbers x = tens(n);
            for (int gap : new int[] {0, 51, -1, 52, 100, MIN, MAX}) {
                due(n + " HOUSES: renumber " + gap, x.renumber(gap), BEYOND);
                due(n + " HOUSES: would " + gap, x.would(gap), BEYOND);
            }
            due(n + " HOUSES: DONE stays", x.count(2), 0);
        }
        due("no HOUSES, would 1", tens(0).would(1), 0);
        due("no HOUSES, would 50", tens(0).would(50), 0);
        due("no HOUSES, renumber 1", tens(0).renumber(1), 0);
        due("no HOUSES, renumber 50", tens(0).renumber(50), 0);
        StreetNumbers x = tens(10);
        due("would 1", x.would(1), 9 * 55);
        due("would 50", x.would(50), 40 * 55);
        due("renumber 50", x.renumber(50), 40 * 55);
        due("the last has 500", x.houseIs(9, 2), 500);
        due("renumber 1", x.renumber(1), 49 * 55);
        due("the first has 1", x.houseIs(0, 2), 1);
        due("the last has 10", x.houseIs(9, 2), 10);
        due("DONE", x.count(2), 89 * 55);
    }

    /** From the church on, HOUSES GET g, 2 times g, 3 times g, and so on. */
    private static void renumberedFromTheChurchOn() {
        StreetNumbers x = new StreetNumbers();
        for (int h = 0; h < 10; h++) {
            x.build(60, 0, 999);
        }
        x.renumber(7);
        for (int h = 0; h < 10; h++) {
            due("HOUSE " + h, x.houseIs(h, 2), 7 * (10 - h));
        }
        due("by the same gap again", x.renumber(7), 0);
        due("rising", x.order(), 1);
    }

    /** (All this is only thought.) */
    private static void wouldIsOnlyThought() {
        StreetNumbers x = street(5, 900, 3, 3);
        sheetOf(x, 0, 16, 5);
        x.voice(0, 1, 5);
        x.would(50);
        x.gap(0);
        x.gap(1);
        x.least(-1);
        x.least(3);
        x.between(0);
        x.fewest();
        x.search(900, 0);
        x.odds(0);
        x.order();
        x.fits(0, 0);
        x.fits(0, 1);
        int[] plates = {5, 900, 3, 3};
        for (int h = 0; h < 4; h++) {
            due("PLATE " + h + " stays", x.houseIs(h, 2), plates[h]);
            due("PLACE " + h + " stays", x.houseIs(h, 3), h);
        }
        int[] counts = {4, 0, 0, 0, 0, 2, 1};
        for (int what = 0; what < 7; what++) {
            due("count " + what + " stays", x.count(what), counts[what]);
        }
        due("the SHEET stays", x.plates(0), 1);
        due("its number", x.houseIs(0, 2), 5);
    }

    /** GAP: the g (1 .. 50) of least WOULD. */
    private static void gapOfLeast() {
        for (int g = 1; g <= 50; g++) {
            StreetNumbers x = street(g, 2 * g, 3 * g);
            due("which, of " + g, x.gap(0), g);
            due("how much, of " + g, x.gap(1), 0);
        }
        due("which, of 51", street(51).gap(0), 50);
        due("how much, of 51", street(51).gap(1), 1);
        due("which, of 999", street(999).gap(0), 50);
        due("how much, of 999", street(999).gap(1), 949);
        due("of ten at 999, which", street(999, 999, 999, 999, 999, 999, 999, 999, 999, 999).gap(0), 50);
        due("of ten at 999", street(999, 999, 999, 999, 999, 999, 999, 999, 999, 999).gap(1), 9990 - 50 * 55);
    }

    /** Of several the least. */
    private static void gapOfSeveral() {
        due("no HOUSES, which", tens(0).gap(0), 1);
        due("no HOUSES, how much", tens(0).gap(1), 0);
        due("a FIELD, which", house(60, 30).gap(0), 1);
        due("a FIELD, how much", house(60, 30).gap(1), 0);
        StreetNumbers shop = house(20, 31);
        due("a SHOP of 31: 8, 18, 28, 30, 31, .. mind nothing", shop.gap(0), 8);
        due("and how much", shop.gap(1), 0);
        StreetNumbers x = street(50);
        textOf(x, 0, "5");
        due("all but 50 mind 5", x.gap(0), 50);
        x.renames(0, 51);
        due("all mind 5", x.gap(0), 1);
        due("how much of each", x.gap(1), 5);
        textOf(x, 0, "(h<2)*0+(h>1)*5");
        due("50 minds nothing", x.gap(0), 50);
        x.renames(0, 50);
        due("49 and 50 mind nothing", x.gap(0), 49);
        textOf(x, 0, "9999");
        x.renames(0, 999);
        due("each is held", x.gap(1), 999);
        due("the least of all that are alike", x.gap(0), 1);
    }

    /** gap: what 0 which, 1 how much. */
    private static void whatOfGap() {
        for (StreetNumbers x : new StreetNumbers[] {tens(0), tens(3)}) {
            for (int what : new int[] {-1, 2, 3, MIN, MAX}) {
                due("gap what " + what, x.gap(what), BEYOND);
            }
            due("told", x.told(1), 5);
        }
    }

    /** LEAST: numbers 1 .. 120. */
    private static void leastNumbers() {
        int[] plates = {1, 2, 119, 120, 121, 122, 999};
        int[] numbers = {1, 2, 119, 120, 120, 120, 120};
        int[] harms = {0, 0, 0, 0, 1, 2, 879};
        for (int i = 0; i < plates.length; i++) {
            StreetNumbers x = street(plates[i]);
            due("number of one at " + plates[i], x.least(0), numbers[i]);
            due("how much", x.least(-1), harms[i]);
        }
        StreetNumbers x = street(120, 120);
        due("two at 120", x.least(-1), 1);
        due("the last", x.least(1), 120);
        due("the first", x.least(0), 119);
        x = street(1, 1);
        due("two at 1", x.least(-1), 1);
        due("the last of them", x.least(1), 2);
        due("the first of them", x.least(0), 1);
        x = street(120, 1);
        due("falling", x.least(-1), 120);
        due("the least for the last", x.least(1), 2);
        due("and the first", x.least(0), 1);
    }

    private static void leastOfTen() {
        StreetNumbers x = street(1, 1, 1, 1, 1, 1, 1, 1, 1, 1);
        due("ten at 1", x.least(-1), 45);
        for (int h = 0; h < 10; h++) {
            due("number of " + h, x.least(h), h + 1);
        }
        x = street(999, 999, 999, 999, 999, 999, 999, 999, 999, 999);
        due("ten at 999", x.least(-1), 8790 + 45);
        for (int h = 0; h < 10; h++) {
            due("number of " + h, x.least(h), 111 + h);
        }
        textOf(x, 0, "999");
        due("ten of 999", x.least(-1), 9990);
        for (int h = 0; h < 10; h++) {
            due("the least of all alike, " + h, x.least(h), h + 1);
        }
        x = new StreetNumbers();
        for (int h = 0; h < 10; h++) {
            x.build(0, 0, 120 - h);
        }
        due("rising to 120", x.least(-1), 0);
        for (int h = 0; h < 10; h++) {
            due("number of HOUSE " + h + ", not of PLACE", x.least(h), 120 - h);
        }
    }

    /** Of several, from the last PLACE back, the least each. */
    private static void leastOfSeveral() {
        StreetNumbers x = street(5, 5);
        due("4, 5 and 5, 6", x.least(1), 5);
        due("so 4", x.least(0), 4);
        x = new StreetNumbers();
        x.build(60, 0, 50);
        x.build(0, 1, 50);
        x.build(60, 2, 50);
        due("a FIELD behind one at 50", x.least(2), 51);
        due("the one at 50", x.least(1), 50);
        due("a FIELD ahead of it", x.least(0), 1);
        due("none minds", x.least(-1), 0);
        x = street(20, 40);
        textOf(x, 0, "(h>3)*h");
        due("3 less for the last", x.least(1), 37);
        due("3 less for the first", x.least(0), 17);
        textOf(x, 0, "(h>3)*h+(h<1)");
        due("none of it for its own PLATE", x.least(1), 37);
        textOf(x, 0, "h<3");
        due("2 is as good as 1 for none", x.least(1), 2);
        due("and 1", x.least(0), 1);
    }

    /** least: what -1 how much, 0 .. 9 the number of that HOUSE. BEYOND. NONE. */
    private static void whatOfLeast() {
        for (int n = 0; n <= 10; n++) {
            StreetNumbers x = tens(n);
            due(n + " HOUSES: how much", x.least(-1), 0);
            for (int what = 0; what <= 9; what++) {
                due(n + " HOUSES: least " + what, x.least(what), what < n ? 10 * (what + 1) : NONE);
            }
            due(n + " HOUSES: told NONE", x.told(2), 10 - n);
            for (int what : new int[] {-2, 10, 11, MIN, MAX}) {
                due(n + " HOUSES: least " + what, x.least(what), BEYOND);
            }
            due(n + " HOUSES: told BEYOND", x.told(1), 5);
        }
    }

    /** between: a PLACE (0 to how many HOUSES there are). */
    private static void placesBetween() {
        for (int n = 0; n <= 10; n++) {
            StreetNumbers x = tens(n);
            due(n + " HOUSES: ahead of all", x.between(0), n == 0 ? 1 : 5);
            due(n + " HOUSES: behind all", x.between(n), 10 * n + 1);
            due(n + " HOUSES: PLACE -1", x.between(-1), BEYOND);
            due(n + " HOUSES: PLACE " + (n + 1), x.between(n + 1), BEYOND);
            if (n > 1) {
                due(n + " HOUSES: ahead of the last", x.between(n - 1), 10 * n - 5);
            }
        }
        StreetNumbers x = street(1, 999);
        due("BEYOND ahead of NONE", x.between(3), BEYOND);
        due("BEYOND ahead of NONE, -1", x.between(-1), BEYOND);
        due("none told", x.told(2), 0);
        due("MIN", x.between(MIN), BEYOND);
        due("MAX", x.between(MAX), BEYOND);
    }

    /** There is a number, if high is 2 or more above low: low and half of high less low (cut). */
    private static void oneOrTwoAbove() {
        int[][] cases = {{1, 999, 500}, {5, 5, NONE}, {5, 6, NONE}, {5, 7, 6}, {5, 8, 6}, {5, 9, 7}, {5, 10, 7},
            {6, 5, NONE}, {7, 5, NONE}, {8, 5, NONE}, {999, 1, NONE}, {997, 999, 998}, {998, 999, NONE}, {1, 2, NONE},
            {1, 3, 2}, {2, 999, 500}, {1, 998, 499}};
        for (int[] one : cases) {
            due("between " + one[0] + " and " + one[1], street(one[0], one[1]).between(1), one[2]);
        }
        int[][] firsts = {{1, NONE}, {2, 1}, {3, 1}, {4, 2}, {998, 499}, {999, 499}};
        for (int[] one : firsts) {
            due("ahead of " + one[0], street(one[0]).between(0), one[1]);
        }
    }

    /** high is 1000, if there is none; low and 1 behind all. */
    private static void behindAll() {
        int[][] lasts = {{1, 2}, {2, 3}, {500, 501}, {997, 998}, {998, 999}, {999, NONE}};
        for (int[] one : lasts) {
            due("behind " + one[0], street(one[0]).between(1), one[1]);
            due("behind 5 and " + one[0], street(5, one[0]).between(2), one[1]);
        }
        due("behind none", tens(0).between(0), 1);
    }

    /** FEWEST: PLATES of the others would rise; like ones don't. */
    private static void fewestPlates() {
        due("none", street().fewest(), 0);
        due("one", street(999).fewest(), 0);
        due("two that rise", street(1, 2).fewest(), 0);
        due("two alike", street(2, 2).fewest(), 1);
        due("two that fall", street(2, 1).fewest(), 1);
        due("ten that rise", tens(10).fewest(), 0);
        due("ten alike", street(5, 5, 5, 5, 5, 5, 5, 5, 5, 5).fewest(), 9);
        due("ten that fall", street(10, 9, 8, 7, 6, 5, 4, 3, 2, 1).fewest(), 9);
        due("the first in the way", street(999, 1, 2, 3).fewest(), 1);
        due("the last in the way", street(1, 2, 3, 1).fewest(), 1);
        due("not the longest run", street(5, 6, 1, 2, 3).fewest(), 2);
        due("not the first that fits", street(1, 9, 2, 3, 4).fewest(), 1);
        due("alike among rising", street(1, 2, 2, 3).fewest(), 1);
        due("two rows of like length", street(6, 7, 8, 1, 2, 3).fewest(), 3);
        StreetNumbers x = new StreetNumbers();
        x.build(0, 0, 3);
        x.build(0, 0, 2);
        x.build(0, 0, 1);
        due("by PLACE, not by HOUSE", x.fewest(), 0);
    }

    /** Of PLACES from the first to the last the one in the middle (both added, by 2, cut) is looked at. */
    private static void middles() {
        int[][] looks = {{}, {1}, {1, 2}, {2, 1, 2}, {2, 1, 2, 3}, {2, 3, 1, 2, 3}, {2, 3, 1, 3, 2, 3},
            {3, 2, 3, 1, 3, 2, 3}, {3, 2, 3, 1, 3, 2, 3, 4}, {3, 2, 3, 4, 1, 3, 2, 3, 4}, {3, 2, 3, 4, 1, 3, 4, 2, 3, 4}};
        for (int n = 0; n <= 10; n++) {
            StreetNumbers x = tens(n);
            for (int h = 0; h < n; h++) {
                due(n + " HOUSES: found " + h, x.search(10 * (h + 1), 0), h);
                due(n + " HOUSES: looks for " + h, x.search(10 * (h + 1), 1), looks[n][h]);
            }
        }
        int[] ahead = {0, 1, 1, 2, 2, 2, 2, 3, 3, 3, 3};
        int[] behind = {0, 1, 2, 2, 3, 3, 3, 3, 4, 4, 4};
        for (int n = 0; n <= 10; n++) {
            StreetNumbers x = tens(n);
            due(n + " HOUSES: 1 isn't found", x.search(1, 0), NONE);
            due(n + " HOUSES: looks for 1", x.search(1, 1), ahead[n]);
            due(n + " HOUSES: 999 isn't found", x.search(999, 0), NONE);
            due(n + " HOUSES: looks for 999", x.search(999, 1), behind[n]);
        }
    }

    /** If it is less, what is behind it is left, else what is ahead of it. */
    private static void leftOrRight() {
        due("alike: the middle", street(5, 5, 5).search(5, 0), 1);
        due("alike: in one look", street(5, 5, 5).search(5, 1), 1);
        due("two alike: the first", street(5, 5).search(5, 0), 0);
        due("falling: the first is lost", street(9, 5, 1).search(9, 0), NONE);
        due("falling: after two looks", street(9, 5, 1).search(9, 1), 2);
        due("falling: the last is lost", street(9, 5, 1).search(1, 0), NONE);
        due("one less than the middle", street(4, 5, 6).search(4, 0), 0);
        due("one more than the middle", street(4, 5, 6).search(6, 0), 2);
        StreetNumbers x = new StreetNumbers();
        x.build(0, 0, 30);
        x.build(0, 0, 20);
        x.build(0, 0, 10);
        due("the HOUSE, not the PLACE", x.search(10, 0), 2);
    }

    /** search: a number (1 .. 999); what 0, 1. BEYOND. NONE: (what 0) it isn't found. */
    private static void numbersOfSearch() {
        due("1 is found", street(1, 999).search(1, 0), 0);
        due("999 is found", street(1, 999).search(999, 0), 1);
        for (int n : new int[] {0, 2}) {
            StreetNumbers x = tens(n);
            for (int number : new int[] {0, 1000, -1, MIN, MAX}) {
                due("search of " + number, x.search(number, 0), BEYOND);
                due("looks for " + number, x.search(number, 1), BEYOND);
            }
            for (int what : new int[] {-1, 2, MIN, MAX}) {
                due("search what " + what, x.search(10, what), BEYOND);
            }
            due("BEYOND ahead of NONE", x.told(2), 0);
            due("told BEYOND", x.told(1), 14);
            due("isn't found", x.search(11, 0), NONE);
            due("looks are no ERROR", x.search(11, 1), n);
            due("told NONE", x.told(2), 1);
        }
    }

    /** odds: BEYOND. STATE: there are no HOUSES. */
    private static void oddsOfNoHouses() {
        StreetNumbers x = tens(0);
        for (int part : new int[] {-1, 2, 3, MIN, MAX}) {
            due("odds part " + part, x.odds(part), BEYOND);
        }
        due("odds part 0", x.odds(0), STATE);
        due("odds part 1", x.odds(1), STATE);
        due("told BEYOND", x.told(1), 5);
        due("told STATE", x.told(3), 2);
        x.build(0, 0, 5);
        due("one HOUSE, above", x.odds(0), 1);
        due("one HOUSE, below", x.odds(1), 1);
        for (int part : new int[] {-1, 2, 3, MIN, MAX}) {
            due("odds part " + part, x.odds(part), BEYOND);
        }
    }

    private static void odds(String what, StreetNumbers x, int above, int below) {
        due("odds of " + what + ", above", x.odds(0), above);
        due("odds of " + what + ", below", x.odds(1), below);
    }

    /** A fraction in lowest terms. */
    private static void oddsInLowestTerms() {
        for (int n = 1; n <= 10; n++) {
            odds(n + " that rise", tens(n), 1, 1);
            StreetNumbers x = new StreetNumbers();
            StreetNumbers y = new StreetNumbers();
            for (int i = 0; i < n; i++) {
                x.build(0, i, 7);
                y.build(0, i, 20 - i);
            }
            odds(n + " alike", x, 1, n);
            odds(n + " that fall", y, 1, n);
        }
        odds("one of two", street(5, 5), 1, 2);
        odds("two of three", street(5, 5, 9), 2, 3);
        odds("two of four", street(1, 5, 5, 4), 1, 2);
        odds("three of four", street(1, 5, 7, 3), 3, 4);
        odds("three of six", street(9, 1, 2, 3, 4, 4), 1, 2);
        odds("two of six", street(9, 1, 3, 2, 2, 8), 1, 3);
        odds("four of six", street(9, 1, 2, 3, 4, 8), 2, 3);
        odds("eight of ten", street(10, 20, 30, 40, 50, 60, 70, 80, 5, 5), 4, 5);
        odds("six of nine", street(999, 20, 30, 40, 50, 999, 70, 80, 5), 2, 3);
    }

    /** Whether PLATES rise (1; 0); like ones don't. */
    private static void rising() {
        due("none", street().order(), 1);
        due("one", street(1).order(), 1);
        due("by one", street(1, 2).order(), 1);
        due("1 and 999", street(1, 999).order(), 1);
        due("alike", street(2, 2).order(), 0);
        due("falling by one", street(2, 1).order(), 0);
        due("ten", tens(10).order(), 1);
        for (int h = 0; h < 10; h++) {
            StreetNumbers x = tens(10);
            x.renames(h, h == 0 ? 20 : 10 * h);
            due("ten, but " + h + " is as the one beside", x.order(), 0);
            x.renames(h, 10 * h + 11 - (h == 9 ? 0 : 2));
            due("ten, and " + h + " is nearly the next", x.order(), 1);
        }
    }

    /** FITS: with how many g (1 .. 50) that is so; the least. */
    private static void fitsOfGaps() {
        for (int g = 1; g <= 50; g++) {
            StreetNumbers x = new StreetNumbers();
            x.build(0, 0, 999);
            x.build(0, 1, 999);
            sheetOf(x, 0, 16, 999 - g, 999 - 2 * g);
            due("how many, by " + g, x.fits(0, 0), 1);
            due("the least, by " + g, x.fits(0, 1), g);
        }
        StreetNumbers x = street(25);
        sheetOf(x, 0, 8, 24);
        due("by 1 and 49", x.fits(0, 0), 2);
        due("the least is 1", x.fits(0, 1), 1);
        sheetOf(x, 0, 8, 25);
        due("by 50 alone", x.fits(0, 0), 1);
        due("the least is 50", x.fits(0, 1), 50);
        sheetOf(x, 0, 8, 0);
        due("by 25 alone", x.fits(0, 0), 1);
        due("the least is 25", x.fits(0, 1), 25);
        x = street(999);
        sheetOf(x, 0, 16, 999);
        due("by 0: none", x.fits(0, 0), 0);
        sheetOf(x, 0, 16, 999 - 51);
        due("by 51: none", x.fits(0, 0), 0);
        x = house(60, 60);
        sheetOf(x, 0, 8, 0);
        due("a FIELD, by all", x.fits(0, 0), 50);
        due("a FIELD, the least", x.fits(0, 1), 1);
    }

    /** NONE: the SHEET is missing; (what 1) there is none. */
    private static void fitsWithoutOne() {
        StreetNumbers x = street(10, 20);
        sheetOf(x, 0, 16, 9, 17);
        due("how many: none, no ERROR", x.fits(0, 0), 0);
        due("the least: none", x.fits(0, 1), NONE);
        due("told once", x.told(2), 1);
        sheetOf(x, 0, 16, 9);
        due("the first alone: by 1 and 19", x.fits(0, 0), 2);
        sheetOf(x, 0, 16, 9, 18);
        due("both: by 1 and 19", x.fits(0, 0), 2);
        sheetOf(x, 0, 16, 8, 18);
        due("the last alone isn't enough", x.fits(0, 0), 0);
        sheetOf(x, 0, 16);
        due("no numbers: by all", x.fits(0, 0), 50);
        due("no numbers: the least", x.fits(0, 1), 1);
        x.sheet(0, 0, 0);
        due("missing again", x.fits(0, 0), NONE);
        due("missing again, the least", x.fits(0, 1), NONE);
    }

    private static void fitsOfNoHouses() {
        StreetNumbers x = tens(0);
        sheetOf(x, 0, 32);
        due("no HOUSES, no numbers", x.fits(0, 0), 50);
        due("no HOUSES, no numbers, the least", x.fits(0, 1), 1);
        StreetNumbers y = tens(10);
        sheetOf(y, 0, 32, 0, 0, 0, 0, 0, 0, 0, 0, 0, 0);
        due("ten HOUSES, ten numbers", y.fits(0, 0), 1);
        due("by 10", y.fits(0, 1), 10);
        sheetOf(y, 0, 32, 0, 0, 0, 0, 0, 0, 0, 0, 0, 1);
        due("the tenth is amiss", y.fits(0, 0), 0);
        sheetOf(y, 0, 32, 65536);
        due("32 bits are not cut", y.fits(0, 0), 0);
    }

    /** A number for which there is no HOUSE tells HARM to none, whatever it is (NOTES.md). */
    private static void fitsOfMoreNumbers() {
        StreetNumbers x = tens(2);
        StreetNumbers none = tens(0);
        for (int number : new int[] {0, 1, 3, 18, 28, 30, 50, 150, 999, -1}) {
            sheetOf(x, 0, 16, 4, 8, number);
            due("a third number " + number + " to two HOUSES", x.fits(0, 0), 0);
            due("the least of none", x.fits(0, 1), NONE);
            sheetOf(none, 0, 16, number);
            due("one number " + number + " to none", none.fits(0, 0), 0);
        }
        sheetOf(x, 0, 16, 4, 8);
        due("two to two: by 6 and 14", x.fits(0, 0), 2);
    }

    /** SHEETS 0 .. 3; what 0, 1; BEYOND ahead of NONE. */
    private static void sheetsOfFits() {
        StreetNumbers x = street(10);
        for (int sheet : new int[] {-1, 4, 5, MIN, MAX}) {
            due("fits of SHEET " + sheet, x.fits(sheet, 0), BEYOND);
            due("fits of SHEET " + sheet + ", the least", x.fits(sheet, 1), BEYOND);
        }
        for (int what : new int[] {-1, 2, MIN, MAX}) {
            due("missing, what " + what, x.fits(3, what), BEYOND);
        }
        due("told BEYOND", x.told(1), 14);
        for (int sheet = 0; sheet < 4; sheet++) {
            due("SHEET " + sheet + " is missing", x.fits(sheet, 0), NONE);
            sheetOf(x, sheet, 8, 9 - sheet);
            due("SHEET " + sheet, x.fits(sheet, 1), 1 + sheet);
            due("what 2", x.fits(sheet, 2), BEYOND);
        }
    }

    /** loose: n (1 .. 30) YEARS. */
    private static void yearsOfLoose() {
        StreetNumbers x = new StreetNumbers();
        for (int n : new int[] {0, 31, -1, 32, MIN, MAX}) {
            due("loose " + n, x.loose(n), BEYOND);
        }
        due("no YEAR went", x.count(1), 0);
        due("z stays", x.count(6), 1);
        due("loose 1", x.loose(1), 1);
        due("one YEAR", x.count(1), 1);
        due("loose 30", x.loose(30), 9);
        due("thirty more", x.count(1), 31);
        due("ten HOUSES", x.count(0), 10);
        int z = 1;
        for (int i = 0; i < 62; i++) {
            z = z * 1103515245 + 12345;
        }
        due("two draws a YEAR", x.count(6), z);
        StreetNumbers y = new StreetNumbers();
        for (int i = 0; i < 31; i++) {
            y.loose(1);
        }
        for (int h = 0; h < 10; h++) {
            for (int what = 0; what <= 5; what++) {
                due("by one YEAR each, as by thirty", y.houseIs(h, what), x.houseIs(h, what));
            }
        }
        due("DONE as well", y.count(2), x.count(2));
    }

    /** STATE: YEAR would be above 9999. */
    private static void lastYear() {
        StreetNumbers x = new StreetNumbers();
        x.year(9969);
        due("loose 30 from 9969", x.loose(30), 10);
        due("YEAR 9999", x.count(1), 9999);
        due("loose 1 from 9999", x.loose(1), STATE);
        due("loose 30 from 9999", x.loose(30), STATE);
        due("loose 31 from 9999", x.loose(31), BEYOND);
        due("loose 0 from 9999", x.loose(0), BEYOND);
        x.year(9998);
        int z = x.count(6);
        due("loose 2 from 9998", x.loose(2), STATE);
        due("no YEAR of both", x.count(1), 9998);
        due("no draw", x.count(6), z);
        due("loose 1 from 9998", x.loose(1), 0);
        due("YEAR 9999 again", x.count(1), 9999);
        x.year(9970);
        due("loose 30 from 9970", x.loose(30), STATE);
        due("loose 29 from 9970", x.loose(29), 0);
        StreetNumbers y = new StreetNumbers();
        y.year(9970);
        due("loose 30 of no HOUSES", y.loose(30), STATE);
        due("none was built", y.count(0), 0);
    }

    /** z: an int; each draw gives z >>> 8. */
    private static void drawsThatWrap() {
        for (int seed : new int[] {MIN, MIN + 1, -1, 0, 1, 12345, MAX - 1, MAX, -1000000001}) {
            StreetNumbers x = tens(6);
            x.seed(seed);
            int first = seed * 1103515245 + 12345;
            int second = first * 1103515245 + 12345;
            due("seed " + seed, x.loose(1), 1);
            due("z", x.count(6), second);
            due("PLACE", x.houseIs(6, 3), (first >>> 8) % 7);
            due("KIND", x.houseIs(6, 0), (second >>> 8) % 7);
            due("m", x.houseIs(6, 1), 0);
            due("PLATE", x.houseIs(6, 2), (first >>> 8) % 7 == 6 ? 61 : 10 * ((first >>> 8) % 7) + 5);
        }
    }

    /** If there are less than 10 HOUSES. YEAR is 1 more in any case. */
    private static void theTenthByDraws() {
        StreetNumbers x = tens(9);
        due("the tenth", x.loose(1), 1);
        due("ten", x.count(0), 10);
        int z = x.count(6);
        int[] plates = new int[10];
        for (int h = 0; h < 10; h++) {
            plates[h] = x.houseIs(h, 2);
        }
        due("no eleventh", x.loose(1), 0);
        due("YEAR", x.count(1), 2);
        due("both draws", x.count(6), (z * 1103515245 + 12345) * 1103515245 + 12345);
        for (int h = 0; h < 10; h++) {
            due("PLATE " + h + " stays", x.houseIs(h, 2), plates[h]);
        }
        StreetNumbers y = tens(8);
        due("the ninth and tenth of three YEARS", y.loose(3), 2);
        due("three YEARS", y.count(1), 3);
    }

    /** A z whose next draw has this rest. */
    private static int seedOf(int rest, int by) {
        for (int z = 0; z < 1000000; z++) {
            if (((z * 1103515245 + 12345) >>> 8) % by == rest) {
                return z;
            }
        }
        throw new IllegalStateException("no such z");
    }

    /** If there is no number BETWEEN for that PLACE, all are RENUMBERED by 10; a full street isn't. */
    private static void noneBetweenByDraws() {
        int[][] plates = {{1, 2, 3}, {2, 3, 5}, {1, 3, 999}, {1, 3, 998}, {9, 9, 2}};
        for (int[] row : plates) {
            for (int place = 0; place <= 3; place++) {
                StreetNumbers x = street(row);
                int between = x.between(place);
                int harm = x.would(10);
                x.seed(seedOf(place, 4));
                due("one comes to " + place, x.loose(1), 1);
                due("to that PLACE", x.houseIs(3, 3), place);
                if (between == NONE) {
                    due("the number BETWEEN then", x.houseIs(3, 2), place == 3 ? 31 : 10 * place + 5);
                    due("all have tens", x.houseIs(2, 2), 30);
                    due("DONE", x.count(2), harm);
                } else {
                    due("the number BETWEEN", x.houseIs(3, 2), between);
                    due("the last stays", x.houseIs(2, 2), row[2]);
                    due("DONE stays", x.count(2), 0);
                }
            }
        }
        StreetNumbers full = street(1, 2, 3, 4, 5, 6, 7, 8, 9, 999);
        due("a full street", full.loose(30), 0);
        due("is not RENUMBERED", full.houseIs(0, 2), 1);
        due("nor its last", full.houseIs(9, 2), 999);
        due("no HARM", full.count(2), 0);
        StreetNumbers nine = street(1, 2, 3, 4, 5, 6, 7, 8, 999);
        nine.seed(seedOf(9, 10));
        due("nine, one behind 999", nine.loose(1), 1);
        due("it gets 91", nine.houseIs(9, 2), 91);
        due("the last has 90", nine.houseIs(8, 2), 90);
    }

    /** RENUMBERED BY DRAWS: HARM of the YEAR that goes on; DONE is held. */
    private static void harmByDraws() {
        StreetNumbers x = street(1, 2);
        textOf(x, 0, "y*10+1");
        x.year(6);
        x.seed(seedOf(1, 3));
        due("none BETWEEN 1 and 2", x.loose(1), 1);
        due("HARM by YEAR 6, not 7", x.count(2), 122);
        due("YEAR 7", x.count(1), 7);
        StreetNumbers y = street(1, 2);
        textOf(y, 0, "999");
        for (int i = 0; i < 100; i++) {
            y.renames(0, 3 + i % 2);
        }
        y.renames(0, 1);
        due("DONE is nearly full", y.count(2), 99999);
        y.seed(seedOf(1, 3));
        due("none BETWEEN again", y.loose(1), 1);
        due("DONE is held", y.count(2), 99999);
        due("all have tens", y.houseIs(1, 2), 20);
    }

    /** z becomes v: what it was (any number). */
    private static void anySeed() {
        StreetNumbers x = new StreetNumbers();
        int was = 1;
        for (int v : new int[] {0, -1, MIN, MAX, BEYOND, NONE, PARTED, -1000000000, 1}) {
            due("seed " + v, x.seed(v), was);
            due("z", x.count(6), v);
            was = v;
        }
        for (int k = 1; k <= 6; k++) {
            due("no ERROR " + k, x.told(k), 0);
        }
    }
}
