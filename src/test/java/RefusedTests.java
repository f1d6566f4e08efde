import java.util.ArrayList;
import java.util.List;

/**
 * "One that answers an ERROR changes nothing but what told() tells": each refused call is made on one of
 * two like objects; all that can be asked of both is alike then, but that told() is one more.
 */
public final class RefusedTests extends Given {
    private static final Checks checks = new Checks("RefusedTests");
    private static final int[] NO_USE = {-1, 2, MIN, MAX};
    private static final int[] NO_SHEET = {-1, 4, MIN, MAX};
    private static final int[] NO_KM = {-1, 70, MIN, MAX};
    private static final int[] NO_NUMBER = {0, 1000, -1, MIN, MAX};

    private interface Making {
        StreetNumbers made();
    }

    private interface Call {
        int on(StreetNumbers x);
    }

    private static Making making;
    private static String setting;

    public static void main(String[] args) {
        setting = "empty";
        making = StreetNumbers::new;
        ofNone();
        anywhere(0);
        setting = "lively";
        making = RefusedTests::lively;
        ofLively();
        anywhere(4);
        setting = "full";
        making = RefusedTests::full;
        ofFull();
        anywhere(10);
        checks.end();
    }

    /** Four HOUSES, TEXTS, a TEXT on THE TAPE, numbers that wait, SHEETS, an IMAGE of other things, a TRACE of 13. */
    private static StreetNumbers lively() {
        StreetNumbers x = new StreetNumbers();
        x.year(41);
        textOf(x, 1, "y+s");
        x.build(3, 0, 77);
        x.feed('h', 1);
        x.tell(77);
        x.seed(99);
        x.image();
        x.image();
        x.build(15, 0, 13);
        x.build(20, 1, 14);
        x.build(43, 3, 999);
        x.renames(1, 12);
        x.year(33);
        x.text(1);
        textOf(x, 0, "h*2+y");
        textOf(x, 1, "y+b");
        feedAll(x, "o-(h>3)");
        x.tell(12);
        x.tell(14);
        x.seed(-5);
        sheetOf(x, 0, 8, 11, 12, 13);
        sheetOf(x, 1, 8, 21, 22, 23, 24, 25);
        sheetOf(x, 2, 16, 301, 302, 303, 304);
        x.voice(3, 3, 5);
        x.voice(0, 3, 5);
        x.standing(9);
        x.body(9);
        return x;
    }

    /** All that can be full is; the last YEAR; no number BETWEEN behind all. */
    private static StreetNumbers full() {
        StreetNumbers x = new StreetNumbers();
        for (int h = 0; h < 10; h++) {
            x.build(10 * (h % 7) + 9 - h, h, 990 + h);
        }
        x.year(9999);
        textOf(x, 0, "h*11");
        feedAll(x, "h" + "+1".repeat(28) + "+10");
        for (int i = 0; i < 24; i++) {
            x.tell(990 + i);
        }
        x.seed(MIN);
        x.image();
        for (int sheet = 0; sheet < 4; sheet++) {
            x.sheet(sheet, 16, sheet == 3 ? 10 : 24);
            for (int i = 0; i < 10; i++) {
                x.put(sheet, i, 100 * (sheet + 1) + i);
            }
        }
        x.voice(0, 3, 9);
        return x;
    }

    private static void refused(String what, int error, Call call) {
        StreetNumbers x = making.made();
        StreetNumbers twin = making.made();
        String name = setting + ": " + what;
        checks.due(name, call.on(x), error);
        for (int k = 1; k <= 6; k++) {
            int more = error == -1000000000 - k ? 1 : 0;
            checks.due(name + ": told " + k, x.told(k), twin.told(k) + more);
        }
        List<Integer> seen = allOf(x);
        List<Integer> due = allOf(twin);
        checks.due(name + ": how much is asked", seen.size(), due.size());
        for (int i = 0; i < Math.min(seen.size(), due.size()); i++) {
            checks.due(name + ": what is asked as number " + i, seen.get(i), due.get(i));
        }
    }

    /** All that can be asked; what the asking changes comes last. */
    private static List<Integer> allOf(StreetNumbers x) {
        List<Integer> all = new ArrayList<>();
        state(x, all);
        for (int i = 0; i < x.count(5); i++) {
            all.add(x.body(i));
        }
        waiting(x, all);
        texts(x, all);
        sheets(x, all);
        all.add(x.restore());
        state(x, all);
        waiting(x, all);
        texts(x, all);
        all.add(x.image());
        return all;
    }

    private static void state(StreetNumbers x, List<Integer> all) {
        for (int what = 0; what < 7; what++) {
            all.add(x.count(what));
        }
        for (int h = 0; h < x.count(0); h++) {
            for (int what = 0; what <= 5; what++) {
                all.add(x.houseIs(h, what));
            }
            all.add(x.standing(h));
        }
    }

    /** Which number is the first that is no PLATE of its HOUSE; of as few as here that tells of all. */
    private static void waiting(StreetNumbers x, List<Integer> all) {
        all.add(x.check());
        all.add(x.count(4));
    }

    private static void texts(StreetNumbers x, List<Integer> all) {
        for (int use = 0; use <= 1; use++) {
            all.add(x.law(use, 11, 2, 3));
            all.add(x.law(use, 2, 31, 5));
        }
        all.add(x.text(0));
        all.add(x.law(0, 11, 2, 3));
        all.add(x.law(0, 2, 31, 50));
        all.add(x.untell(0));
        all.add(x.untell(1));
    }

    /** The first ten numbers of each SHEET by the PLATES that they become, and how many there are. */
    private static void sheets(StreetNumbers x, List<Integer> all) {
        for (int sheet = 0; sheet < 4; sheet++) {
            all.add(x.plates(sheet));
            for (int h = 0; h < x.count(0); h++) {
                all.add(x.houseIs(h, 2));
            }
            all.add(x.judge(sheet));
            for (int i : new int[] {0, 2, 3, 4, 5, 9, 10, 23, 24}) {
                all.add(x.put(sheet, i, 1));
            }
            for (int other = 0; other < sheet; other++) {
                all.add(x.move(sheet, 0, other, 0, 0));
            }
        }
    }

    /** What is refused whatever there is; h is no HOUSE, and one less is the last, if there is any. */
    private static void anywhere(int h) {
        ofHouses(h);
        ofHouses(-1);
        ofHouses(MIN);
        ofHouses(MAX);
        ofNumbers(h);
        ofTexts();
        ofNumberings(h);
        ofSheets();
        for (int what : new int[] {-1, 7, MIN, MAX}) {
            refused("count " + what, BEYOND, x -> x.count(what));
        }
        for (int k : new int[] {0, 7, -1, MIN, MAX}) {
            refused("told " + k, BEYOND, x -> x.told(k));
        }
        for (int i : new int[] {-1, 30, MIN, MAX}) {
            refused("body " + i, NONE, x -> x.body(i));
        }
    }

    private static void ofHouses(int h) {
        for (int what : new int[] {-1, 0, 5, 6}) {
            refused("houseIs " + h, BEYOND, x -> x.houseIs(h, what));
        }
        refused("standing " + h, BEYOND, x -> x.standing(h));
        refused("become " + h, BEYOND, x -> x.become(h, 57));
        refused("as " + h, BEYOND, x -> x.as(h, 0));
        refused("harm " + h, BEYOND, x -> x.harm(h, 500));
        refused("renames " + h, BEYOND, x -> x.renames(h, 500));
        for (int voice = -1; voice <= 4; voice++) {
            int v = voice;
            refused("voice " + v + " of " + h, BEYOND, x -> x.voice(h, v, 9));
        }
    }

    private static void ofNumbers(int h) {
        for (int km : NO_KM) {
            refused("build km " + km, BEYOND, x -> x.build(km, 0, 500));
            refused("become km " + km, BEYOND, x -> x.become(0, km));
        }
        for (int place : new int[] {-1, h + 1, MIN, MAX}) {
            refused("build to " + place, BEYOND, x -> x.build(15, place, 500));
            refused("between " + place, BEYOND, x -> x.between(place));
        }
        for (int number : NO_NUMBER) {
            refused("build of " + number, BEYOND, x -> x.build(15, 0, number));
            refused("harm of " + number, BEYOND, x -> x.harm(0, number));
            refused("renames to " + number, BEYOND, x -> x.renames(0, number));
        }
        for (int v : new int[] {-1, 10000, MIN, MAX}) {
            refused("year " + v, BEYOND, x -> x.year(v));
        }
        for (int kind : new int[] {-1, 7, MIN, MAX}) {
            refused("as of KIND " + kind, BEYOND, x -> x.as(0, kind));
        }
        for (int voice : new int[] {-1, 4, MIN, MAX}) {
            refused("voice " + voice, BEYOND, x -> x.voice(0, voice, 9));
        }
    }

    private static void ofTexts() {
        for (int n : new int[] {0, 9, -1, MIN, MAX}) {
            refused("feed of " + n, BEYOND, x -> x.feed(0x3131313131313131L, n));
        }
        for (int use : NO_USE) {
            refused("text of USE " + use, BEYOND, x -> x.text(use));
            refused("untell of USE " + use, BEYOND, x -> x.untell(use));
            refused("law of USE " + use, BEYOND, x -> x.law(use, 5, 5, 5));
        }
    }

    private static void ofNumberings(int houses) {
        for (int gap : new int[] {0, 51, -1, MIN, MAX}) {
            refused("renumber " + gap, BEYOND, x -> x.renumber(gap));
            refused("would " + gap, BEYOND, x -> x.would(gap));
        }
        for (int what : new int[] {-1, 2, MIN, MAX}) {
            refused("gap " + what, BEYOND, x -> x.gap(what));
            refused("search what " + what, BEYOND, x -> x.search(5, what));
            refused("odds " + what, BEYOND, x -> x.odds(what));
            refused("fits what " + what, BEYOND, x -> x.fits(0, what));
        }
        for (int what : new int[] {-2, 10, MIN, MAX}) {
            refused("least " + what, BEYOND, x -> x.least(what));
        }
        for (int what = houses; what < 10; what++) {
            int h = what;
            refused("least " + h, NONE, x -> x.least(h));
        }
        for (int number : NO_NUMBER) {
            refused("search " + number, BEYOND, x -> x.search(number, 0));
            refused("search " + number + ", looks", BEYOND, x -> x.search(number, 1));
        }
        refused("search that finds none", NONE, x -> x.search(444, 0));
        for (int n : new int[] {0, 31, -1, MIN, MAX}) {
            refused("loose " + n, BEYOND, x -> x.loose(n));
        }
    }

    private static void ofSheets() {
        for (int sheet : NO_SHEET) {
            refused("fits of SHEET " + sheet, BEYOND, x -> x.fits(sheet, 0));
            refused("plates of SHEET " + sheet, BEYOND, x -> x.plates(sheet));
            refused("judge of SHEET " + sheet, BEYOND, x -> x.judge(sheet));
            refused("put to SHEET " + sheet, BEYOND, x -> x.put(sheet, 0, 5));
            refused("move from SHEET " + sheet, BEYOND, x -> x.move(sheet, 0, 0, 0, 1));
            refused("move to SHEET " + sheet, BEYOND, x -> x.move(0, 0, sheet, 0, 1));
            refused("sheet " + sheet, BEYOND, x -> x.sheet(sheet, 8, 1));
            refused("sheet " + sheet + " missing", BEYOND, x -> x.sheet(sheet, 0, 1));
        }
        for (int bits : new int[] {-1, 7, 9, 24, 64, MIN, MAX}) {
            refused("sheet of " + bits, BEYOND, x -> x.sheet(0, bits, 1));
        }
        for (int n : new int[] {-1, MIN}) {
            refused("sheet of n " + n, STATE, x -> x.sheet(0, 8, n));
        }
        for (int n : new int[] {25, MAX}) {
            refused("sheet of n " + n, BEYOND, x -> x.sheet(0, 8, n));
        }
    }

    private static void ofNone() {
        refused("odds 0", STATE, x -> x.odds(0));
        refused("odds 1", STATE, x -> x.odds(1));
        refused("restore", NONE, x -> x.restore());
        refused("body 0", NONE, x -> x.body(0));
        ofMissing(0);
        ofMissing(3);
    }

    private static void ofMissing(int sheet) {
        refused("fits, missing", NONE, x -> x.fits(sheet, 0));
        refused("fits, missing, the least", NONE, x -> x.fits(sheet, 1));
        refused("plates, missing", NONE, x -> x.plates(sheet));
        refused("judge, missing", NONE, x -> x.judge(sheet));
        refused("put, missing", NONE, x -> x.put(sheet, 0, 5));
        refused("put, missing, no number", NONE, x -> x.put(sheet, -1, 5));
        refused("move from a missing one", NONE, x -> x.move(sheet, 0, 1, 0, 1));
        refused("move to a missing one", NONE, x -> x.move(1, 0, sheet, 0, 1));
    }

    private static void ofLively() {
        ofMissing(3);
        refused("as of another KIND", KIND, x -> x.as(1, 4));
        refused("between, behind 999", NONE, x -> x.between(4));
        refused("fits by none", NONE, x -> x.fits(2, 1));
        refused("body behind the last", NONE, x -> x.body(1));
        refused("loose in the last YEARS", STATE, x -> {
            int was = x.year(9980);
            int answer = x.loose(20);
            x.year(was);
            return answer;
        });
        // The TRACE is 13 ahead of it, too.
        refused("parts by 0", PARTED, x -> {
            int m = x.houseIs(0, 1);
            x.become(0, 0);
            int answer = x.voice(0, 3, 5);
            x.become(0, m);
            return answer;
        });
        for (int i : new int[] {-1, 3, MIN, MAX}) {
            refused("put to number " + i, BEYOND, x -> x.put(0, i, 5));
            refused("move from number " + i, BEYOND, x -> x.move(0, i, 1, 0, 1));
            refused("move of n " + i, BEYOND, x -> x.move(0, 1, 1, 1, i));
        }
        for (int j : new int[] {-1, 5, MIN, MAX}) {
            refused("move to number " + j, BEYOND, x -> x.move(0, 0, 1, j, 1));
        }
        refused("move more than there are", BEYOND, x -> x.move(1, 0, 0, 0, 5));
        refused("move more than fit", BEYOND, x -> x.move(1, 0, 1, 1, 5));
        refused("move of unlike bits", KIND, x -> x.move(0, 0, 2, 0, 1));
        refused("move of unlike bits, the other way", KIND, x -> x.move(2, 0, 0, 0, 1));
    }

    private static void ofFull() {
        for (int place = 0; place <= 10; place++) {
            int p = place;
            refused("build to " + p, FULL, x -> x.build(15, p, 5));
        }
        for (int n = 1; n <= 8; n++) {
            int bytes = n;
            refused("feed of " + n, FULL, x -> x.feed(0x3131313131313131L, bytes));
        }
        for (int n : new int[] {1, 2, 30}) {
            refused("loose " + n, STATE, x -> x.loose(n));
        }
        refused("tell", FULL, x -> x.tell(5));
        refused("tell of what is there", FULL, x -> x.tell(990));
        refused("between, behind 999", NONE, x -> x.between(10));
        refused("between 990 and 991", NONE, x -> x.between(1));
        refused("as of a KIND under it", KIND, x -> x.as(1, 4));
        refused("put behind the last", BEYOND, x -> x.put(0, 24, 5));
        refused("move of 25", BEYOND, x -> x.move(0, 0, 1, 0, 25));
        refused("move of 24 from 1", BEYOND, x -> x.move(0, 1, 1, 0, 24));
    }
}
