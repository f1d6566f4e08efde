/** Boundary cases of promises 1 to 9, and of Terms 1: each sentence that names one, with tests of its own. */
public final class HouseEdges extends Given {
    private static final Checks checks = new Checks("HouseEdges");

    private static void due(String call, long got, long want) {
        checks.due(call, got, want);
    }

    public static void main(String[] args) {
        allAsAtFirst();
        kindsWithM();
        placesOfBuild();
        platesOfBuild();
        atMostTenHouses();
        thoseFromThereOn();
        housesThatAre();
        whatOfAHouse();
        yardsAhead();
        fronts();
        yearsOfFields();
        placesWhereOneStands();
        becomes();
        mOfAKind();
        numbersOfHarm();
        villasMindThirteen();
        shopsLikeEight();
        cornersMindOdd();
        kiosksMindFour();
        mindsAreCut();
        itsOwnPlate();
        harmIsHeld();
        doneIsHeld();
        doneIsHeldInRenumbering();
        years();
        checks.end();
    }

    /** All as at first; no HOUSES, no TEXTS. */
    private static void allAsAtFirst() {
        StreetNumbers x = new StreetNumbers();
        int[] counts = {0, 0, 0, 0, 0, 0, 1};
        for (int what = 0; what < counts.length; what++) {
            due("new: count " + what, x.count(what), counts[what]);
        }
        for (int k = 1; k <= 6; k++) {
            due("new: told " + k, x.told(k), 0);
        }
        due("new: no HOUSE stands", x.standing(0), BEYOND);
        due("new: no HOUSE 0", x.houseIs(0, 0), BEYOND);
        due("new: no TEXT of HARM", x.untell(0), 0);
        due("new: no TEXT of YARDS", x.untell(1), 0);
        due("new: HARM is h", x.law(0, 500, 3, 7), 500);
        due("new: YARDS are y", x.law(1, 50, 3, 7), 50);
        due("new: an empty TAPE", x.text(0), -10);
        due("new: none waits", x.check(), 0);
        due("new: no BODY", x.body(0), NONE);
        for (int sheet = 0; sheet < 4; sheet++) {
            due("new: SHEET " + sheet + " is missing", x.put(sheet, 0, 1), NONE);
        }
        due("new: no IMAGE", x.restore(), NONE);
        due("new: first IMAGE", x.image(), 1);
        due("new: YEAR of it", x.restore(), 0);
    }

    /** km: 10 times the KIND (0 .. 6), and m (0 .. 9). */
    private static void kindsWithM() {
        for (int km = 0; km < 70; km++) {
            StreetNumbers x = new StreetNumbers();
            due("build km " + km, x.build(km, 0, 1), 0);
            due("KIND of km " + km, x.houseIs(0, 0), km / 10);
            due("m of km " + km, x.houseIs(0, 1), km % 10);
        }
        for (int km : new int[] {-1, 70, -10, 71, 79, 99, 100, MIN, MAX}) {
            StreetNumbers x = new StreetNumbers();
            due("build km " + km, x.build(km, 0, 1), BEYOND);
            due("nothing built", x.count(0), 0);
        }
    }

    /** A PLACE (0 to how many there are). */
    private static void placesOfBuild() {
        for (int n = 0; n < 10; n++) {
            due(n + " HOUSES, PLACE -1", tens(n).build(0, -1, 1), BEYOND);
            due(n + " HOUSES, PLACE 0", tens(n).build(0, 0, 1), n);
            due(n + " HOUSES, PLACE " + n, tens(n).build(0, n, 1), n);
            due(n + " HOUSES, PLACE " + (n + 1), tens(n).build(0, n + 1, 1), BEYOND);
        }
        due("PLACE MIN", tens(3).build(0, MIN, 1), BEYOND);
        due("PLACE MAX", tens(3).build(0, MAX, 1), BEYOND);
    }

    /** A PLATE (1 .. 999). */
    private static void platesOfBuild() {
        StreetNumbers x = new StreetNumbers();
        due("PLATE 1", x.build(0, 0, 1), 0);
        due("is 1", x.houseIs(0, 2), 1);
        due("PLATE 999", x.build(0, 1, 999), 1);
        due("is 999", x.houseIs(1, 2), 999);
        for (int number : new int[] {0, 1000, -1, 1001, MIN, MAX}) {
            due("PLATE " + number, x.build(0, 0, number), BEYOND);
        }
        due("still two", x.count(0), 2);
    }

    /** HOUSES (at most 10). BEYOND. FULL. */
    private static void atMostTenHouses() {
        StreetNumbers x = tens(9);
        due("the tenth", x.build(15, 9, 100), 9);
        due("ten", x.count(0), 10);
        for (int place = 0; place <= 10; place++) {
            due("the eleventh to PLACE " + place, x.build(0, place, 5), FULL);
        }
        due("FULL: BEYOND of km is ahead", x.build(70, 0, 5), BEYOND);
        due("FULL: BEYOND of km -1 is ahead", x.build(-1, 0, 5), BEYOND);
        due("FULL: BEYOND of PLACE 11 is ahead", x.build(0, 11, 5), BEYOND);
        due("FULL: BEYOND of PLACE -1 is ahead", x.build(0, -1, 5), BEYOND);
        due("FULL: BEYOND of number 0 is ahead", x.build(0, 0, 0), BEYOND);
        due("FULL: BEYOND of number 1000 is ahead", x.build(0, 0, 1000), BEYOND);
        due("still ten", x.count(0), 10);
        for (int h = 0; h < 10; h++) {
            due("stands as it stood", x.standing(h), h);
            due("its PLATE", x.houseIs(h, 2), 10 * (h + 1));
        }
    }

    /** Those from there on are one further; HOUSES 0, 1, .. as they were built. */
    private static void thoseFromThereOn() {
        for (int place = 0; place <= 9; place++) {
            StreetNumbers x = tens(9);
            due("to PLACE " + place, x.build(23, place, 5), 9);
            for (int h = 0; h < 9; h++) {
                int at = h < place ? h : h + 1;
                due("PLACE of " + h + " when one comes to " + place, x.houseIs(h, 3), at);
                due("who stands there", x.standing(at), h);
            }
            due("PLACE of the new one", x.houseIs(9, 3), place);
            due("the new one stands there", x.standing(place), 9);
        }
        StreetNumbers x = new StreetNumbers();
        for (int h = 0; h < 10; h++) {
            due("each ahead of all", x.build(0, 0, h + 1), h);
        }
        for (int h = 0; h < 10; h++) {
            due("turned round", x.houseIs(h, 3), 9 - h);
            due("its PLATE goes with it", x.houseIs(h, 2), h + 1);
        }
    }

    /** houseIs, become, as, harm, renames: a HOUSE that there is, and the ones beside. */
    private static void housesThatAre() {
        for (int n = 0; n <= 10; n++) {
            StreetNumbers x = tens(n);
            for (int h : new int[] {-1, n, n + 1, 10, MIN, MAX}) {
                if (h < 0 || h >= n) {
                    due(n + " HOUSES: houseIs " + h, x.houseIs(h, 0), BEYOND);
                    due(n + " HOUSES: become " + h, x.become(h, 0), BEYOND);
                    due(n + " HOUSES: as " + h, x.as(h, 0), BEYOND);
                    due(n + " HOUSES: harm " + h, x.harm(h, 5), BEYOND);
                    due(n + " HOUSES: renames " + h, x.renames(h, 5), BEYOND);
                }
            }
            if (n > 0) {
                due(n + " HOUSES: houseIs of the last", x.houseIs(n - 1, 3), n - 1);
                due(n + " HOUSES: harm of the last", x.harm(n - 1, 10 * n + 1), 1);
                due(n + " HOUSES: renames of the last", x.renames(n - 1, 10 * n + 1), 1);
                due(n + " HOUSES: become of the last", x.become(n - 1, 69), 0);
                due(n + " HOUSES: as of the last", x.as(n - 1, 6), 9);
                due(n + " HOUSES: renames of the first", x.renames(0, 1), n == 1 ? 0 : 9);
                due(n + " HOUSES: become of the first", x.become(0, 10), n == 1 ? 6 : 0);
            }
        }
    }

    /** what 0 .. 5. */
    private static void whatOfAHouse() {
        StreetNumbers x = house(47, 30);
        int[] are = {4, 7, 30, 0, 36, 0};
        for (int what = 0; what < are.length; what++) {
            due("houseIs what " + what, x.houseIs(0, what), are[what]);
        }
        for (int what : new int[] {-1, 6, 7, MIN, MAX}) {
            due("houseIs what " + what, x.houseIs(0, what), BEYOND);
        }
    }

    /** 5 YARDS of all ahead of it, together; none is ahead of PLACE 0. */
    private static void yardsAhead() {
        StreetNumbers x = tens(10);
        for (int h = 0; h < 10; h++) {
            due("YARDS ahead of PLACE " + h, x.houseIs(h, 5), 6 * h);
        }
        textOf(x, 1, "99");
        due("the most YARDS ahead", x.houseIs(9, 5), 891);
        textOf(x, 1, "y*0+b+1");
        due("each by its PLACE", x.houseIs(9, 5), 1 + 2 + 3 + 4 + 5 + 6 + 7 + 8 + 9);
        due("not its own", x.houseIs(1, 5), 1);
        due("the last one's own", x.houseIs(9, 4), 10);
    }

    /** FRONT of each KIND, of the least m and of the largest; KIOSK's is cut. */
    private static void fronts() {
        int[] least = {6, 12, 4, 6, 22, 2, 20};
        int[] most = {15, 30, 13, 15, 40, 6, 20};
        for (int kind = 0; kind < 7; kind++) {
            due("FRONT of KIND " + kind + ", m 0", house(10 * kind, 1).houseIs(0, 4), least[kind]);
            due("FRONT of KIND " + kind + ", m 9", house(10 * kind + 9, 1).houseIs(0, 4), most[kind]);
        }
        due("KIOSK, half of 5, cut", house(51, 1).houseIs(0, 4), 2);
        due("KIOSK, half of 6", house(52, 1).houseIs(0, 4), 3);
    }

    /** FIELD: 20, and the rest of YEAR by 5. */
    private static void yearsOfFields() {
        StreetNumbers x = house(60, 1);
        int[] years = {0, 1, 4, 5, 6, 9, 10, 9994, 9995, 9999};
        int[] fronts = {20, 21, 24, 20, 21, 24, 20, 24, 20, 24};
        for (int i = 0; i < years.length; i++) {
            x.year(years[i]);
            due("FIELD in YEAR " + years[i], x.houseIs(0, 4), fronts[i]);
        }
    }

    /** standing: a PLACE where a HOUSE stands, and the ones beside. */
    private static void placesWhereOneStands() {
        for (int n = 0; n <= 10; n++) {
            StreetNumbers x = tens(n);
            due(n + " HOUSES: PLACE -1", x.standing(-1), BEYOND);
            due(n + " HOUSES: PLACE " + n, x.standing(n), BEYOND);
            due(n + " HOUSES: PLACE " + (n + 1), x.standing(n + 1), BEYOND);
            if (n > 0) {
                due(n + " HOUSES: PLACE 0", x.standing(0), 0);
                due(n + " HOUSES: the last PLACE", x.standing(n - 1), n - 1);
            }
        }
    }

    /** become: km 0 .. 69; the KIND that it was. */
    private static void becomes() {
        StreetNumbers x = house(34, 500);
        int was = 3;
        for (int km = 0; km < 70; km++) {
            due("becomes km " + km, x.become(0, km), was);
            due("its KIND", x.houseIs(0, 0), km / 10);
            due("its m", x.houseIs(0, 1), km % 10);
            was = km / 10;
        }
        for (int km : new int[] {-1, 70, MIN, MAX}) {
            due("becomes km " + km, x.become(0, km), BEYOND);
        }
        due("the KIND stays", x.houseIs(0, 0), 6);
        due("m stays", x.houseIs(0, 1), 9);
        due("the PLATE stays", x.houseIs(0, 2), 500);
        due("becomes what it is", x.become(0, 69), 6);
    }

    /** as: m (0 .. 9), no ERROR; KIND 0 .. 6; BEYOND ahead of KIND. */
    private static void mOfAKind() {
        for (int kind = 0; kind < 7; kind++) {
            due("KIND " + kind + " as itself, m 0", house(10 * kind, 1).as(0, kind), 0);
            due("KIND " + kind + " as itself, m 9", house(10 * kind + 9, 1).as(0, kind), 9);
            due("KIND " + kind + " as COTTAGE, m 9", house(10 * kind + 9, 1).as(0, 0), 9);
            for (int upper : new int[] {-1, 7, MIN, MAX}) {
                due("KIND " + kind + " as " + upper, house(10 * kind, 1).as(0, upper), BEYOND);
            }
        }
        int[][] pairs = {{0, 1}, {0, 6}, {1, 2}, {1, 4}, {2, 5}, {2, 1}, {4, 2}, {4, 5}, {5, 1}, {5, 4}, {3, 1}, {6, 3}};
        for (int[] pair : pairs) {
            due("KIND " + pair[0] + " as " + pair[1], house(10 * pair[0] + 3, 1).as(0, pair[1]), KIND);
        }
        due("MANOR as VILLA", house(45, 1).as(0, 1), 5);
        due("KIOSK as SHOP", house(55, 1).as(0, 2), 5);
        StreetNumbers x = house(0, 1);
        due("no such HOUSE, not that KIND", x.as(1, 6), BEYOND);
        due("told as BEYOND", x.told(1), 1);
        due("not as KIND", x.told(5), 0);
    }

    /** HARM, renames: a number (1 .. 999). */
    private static void numbersOfHarm() {
        StreetNumbers x = house(0, 500);
        due("harm of 1", x.harm(0, 1), 499);
        due("harm of 999", x.harm(0, 999), 499);
        due("harm of one less", x.harm(0, 499), 1);
        due("harm of one more", x.harm(0, 501), 1);
        for (int number : new int[] {0, 1000, -1, -500, 1001, MIN, MAX}) {
            due("harm of " + number, x.harm(0, number), BEYOND);
            due("renames to " + number, x.renames(0, number), BEYOND);
        }
        due("the PLATE stays", x.houseIs(0, 2), 500);
        due("renames to 1", x.renames(0, 1), 499);
        due("is 1", x.houseIs(0, 2), 1);
        due("from 1 to 999", x.renames(0, 999), 998);
        due("is 999", x.houseIs(0, 2), 999);
        due("from 999 to 1", x.harm(0, 1), 998);
    }

    /** VILLA: and 50, if the rest of n by 100 is 13. MANOR: 3 times VILLA's. */
    private static void villasMindThirteen() {
        int[] numbers = {12, 13, 14, 3, 33, 113, 112, 114, 130, 131, 213, 103, 313};
        int[] extra = {0, 50, 0, 0, 0, 50, 0, 0, 0, 0, 50, 0, 50};
        for (int i = 0; i < numbers.length; i++) {
            int apart = Math.abs(numbers[i] - 100);
            due("VILLA of " + numbers[i], house(10, 100).harm(0, numbers[i]), apart + extra[i]);
            due("MANOR of " + numbers[i], house(40, 100).harm(0, numbers[i]), 3 * (apart + extra[i]));
            due("COTTAGE of " + numbers[i], house(0, 100).harm(0, numbers[i]), apart);
            due("CORNER, even if m 0", house(30, 100).harm(0, numbers[i]), apart);
        }
        due("VILLA of 913", house(10, 900).harm(0, 913), 63);
        due("VILLA of 13 beside it", house(10, 14).harm(0, 13), 51);
        due("its m doesn't matter", house(19, 14).harm(0, 13), 51);
    }

    /** SHOP: 0, if the rest of n by 10 is 8; else half of COTTAGE's (cut). */
    private static void shopsLikeEight() {
        int[] numbers = {7, 8, 9, 18, 80, 81, 88, 98, 108, 998, 997, 999};
        int[] minds = {46, 0, 45, 0, 10, 9, 0, 0, 0, 0, 448, 449};
        for (int i = 0; i < numbers.length; i++) {
            due("SHOP of " + numbers[i], house(20, 100).harm(0, numbers[i]), minds[i]);
            due("KIOSK of " + numbers[i], house(50, 100).harm(0, numbers[i]), minds[i]);
        }
    }

    /** CORNER: and m, if 2 doesn't divide n. */
    private static void cornersMindOdd() {
        due("CORNER of 1", house(39, 4).harm(0, 1), 3 + 9);
        due("CORNER of 2", house(39, 4).harm(0, 2), 2);
        due("CORNER of 3", house(39, 4).harm(0, 3), 1 + 9);
        due("CORNER of 998", house(39, 990).harm(0, 998), 8);
        due("CORNER of 999", house(39, 990).harm(0, 999), 9 + 9);
        due("CORNER of 999, m 0", house(30, 990).harm(0, 999), 9);
    }

    /** KIOSK: as SHOP, and 20, if the rest of n by 10 is 4. */
    private static void kiosksMindFour() {
        int[] numbers = {3, 4, 5, 14, 24, 40, 44, 104, 994};
        int[] minds = {48, 48 + 20, 47, 43 + 20, 38 + 20, 30, 28 + 20, 2 + 20, 447 + 20};
        for (int i = 0; i < numbers.length; i++) {
            due("KIOSK of " + numbers[i], house(50, 100).harm(0, numbers[i]), minds[i]);
        }
    }

    /** Half (cut): of 1 it is 0. FIELD: 0. */
    private static void mindsAreCut() {
        due("SHOP, half of 1", house(20, 11).harm(0, 12), 0);
        due("SHOP, half of 1, ahead", house(20, 11).harm(0, 10), 0);
        due("SHOP, half of 2", house(20, 11).harm(0, 13), 1);
        due("SHOP, half of 3", house(20, 12).harm(0, 9), 1);
        due("FIELD of 1", house(69, 999).harm(0, 1), 0);
        due("FIELD of 999", house(69, 1).harm(0, 999), 0);
        due("FIELD of 13", house(69, 1).harm(0, 13), 0);
    }

    /** HARM: 0, if it is its PLATE; else what the TEXT gives. */
    private static void itsOwnPlate() {
        int[] plates = {1, 4, 8, 13, 999};
        for (int kind = 0; kind < 7; kind++) {
            for (int plate : plates) {
                StreetNumbers x = house(10 * kind + 9, plate);
                due("KIND " + kind + ", its own " + plate, x.harm(0, plate), 0);
                textOf(x, 0, "999");
                due("KIND " + kind + ", its own " + plate + ", with a TEXT", x.harm(0, plate), 0);
                due("gets its own", x.renames(0, plate), 0);
                due("all RENUMBERED", x.would(1), plate == 1 ? 0 : 999);
            }
        }
        StreetNumbers x = house(60, 20);
        textOf(x, 0, "h+7");
        due("a FIELD with a TEXT", x.harm(0, 21), 7);
    }

    /** HARM is held within 0 .. 999, with a TEXT and without. */
    private static void harmIsHeld() {
        due("MANOR, 3 times 333", house(40, 1).harm(0, 334), 999);
        due("MANOR, 3 times 334", house(40, 1).harm(0, 335), 999);
        due("MANOR, 3 times 332", house(40, 1).harm(0, 333), 996);
        String[] texts = {"0", "1", "998", "999", "1000", "1-1", "0-1", "9999*9999*9999", "9999*9999"};
        int[] harms = {0, 1, 998, 999, 999, 0, 0, 0, 999};
        for (int i = 0; i < texts.length; i++) {
            StreetNumbers x = house(0, 20);
            textOf(x, 0, texts[i]);
            due("HARM by " + texts[i], x.harm(0, 21), harms[i]);
        }
    }

    /** DONE is HARM more (held at 99999); what renames answers is not held. */
    private static void doneIsHeld() {
        int[][] lasts = {{97, 99997}, {98, 99998}, {99, 99999}, {100, 99999}, {999, 99999}};
        for (int[] last : lasts) {
            StreetNumbers x = house(0, 1);
            textOf(x, 0, "999");
            for (int i = 0; i < 100; i++) {
                x.renames(0, 2 + i % 2);
            }
            due("a hundred times 999", x.count(2), 99900);
            textOf(x, 0, Integer.toString(last[0]));
            due("and " + last[0], x.renames(0, 9), last[0]);
            due("DONE then", x.count(2), last[1]);
            textOf(x, 0, "1");
            due("and 1", x.renames(0, 8), 1);
            due("DONE then, too", x.count(2), Math.min(99999, last[1] + 1));
            due("its own PLATE", x.renames(0, 8), 0);
            due("DONE stays", x.count(2), Math.min(99999, last[1] + 1));
        }
    }

    /** RENUMBERED, BY DRAWS: DONE is held likewise. */
    private static void doneIsHeldInRenumbering() {
        StreetNumbers x = tens(10);
        textOf(x, 0, "999");
        for (int i = 0; i < 10; i++) {
            due("all, by " + (20 + i), x.renumber(20 + i), 9990);
        }
        due("DONE", x.count(2), 99900);
        due("all again", x.renumber(1), 9990);
        due("DONE is held", x.count(2), 99999);
        due("all again, all HARM is told", x.renumber(2), 9990);
        due("DONE is held still", x.count(2), 99999);
    }

    /** YEAR (0 .. 9999). */
    private static void years() {
        StreetNumbers x = new StreetNumbers();
        due("YEAR 0", x.year(0), 0);
        due("YEAR 1", x.year(1), 0);
        due("YEAR 9998", x.year(9998), 1);
        due("YEAR 9999", x.year(9999), 9998);
        for (int v : new int[] {-1, 10000, 10001, MIN, MAX}) {
            due("YEAR " + v, x.year(v), BEYOND);
        }
        due("YEAR stays", x.count(1), 9999);
        due("YEAR 0 again", x.year(0), 9999);
        due("is 0", x.count(1), 0);
        StreetNumbers y = house(0, 5);
        textOf(y, 0, "y");
        int[] years = {0, 1, 6, 7, 8, 13, 14, 9995, 9996, 9999};
        int[] rests = {0, 1, 6, 0, 1, 6, 0, 6, 0, 3};
        for (int i = 0; i < years.length; i++) {
            y.year(years[i]);
            due("rest of YEAR " + years[i] + " by 7", y.harm(0, 9), rests[i]);
        }
    }
}
