/** Boundary cases of promises 26 to 38, and of Terms 4: each sentence that names one, with tests of its own. */
public final class VoiceEdges extends Given {
    private static final Checks checks = new Checks("VoiceEdges");

    private static void due(String call, long got, long want) {
        checks.due(call, got, want);
    }

    public static void main(String[] args) {
        voicesThatWrap();
        halvesCutTowardNone();
        parted();
        partsCutTowardNone();
        answersLikeErrors();
        housesAndVoices();
        placesInTheTrace();
        theLatestVoice();
        numbersOfASheet();
        allAreNone();
        bitsOfASheet();
        numbersOfPut();
        lowestBits();
        numbersOfMove();
        movedAsTheyAllWere();
        orderOfMove();
        platesUpTo();
        platesWithoutHouses();
        judgedFromTheFirstOn();
        howOftenImaged();
        imageStays();
        imageOfAll();
        sheetsAreNotKept();
        waitingNumbers();
        checkedNumbers();
        checkedByHouse();
        counts();
        toldOfEach();
        lastCall();
        objectsShareNothing();
        checks.end();
    }

    /** VOICES: ints that wrap. */
    private static void voicesThatWrap() {
        StreetNumbers x = tens(10);
        due("rings of MAX", x.voice(1, 0, MAX), MIN);
        due("rings of MAX, k 9", x.voice(9, 0, MAX), MIN + 8);
        due("rings of MIN", x.voice(9, 0, MIN), MIN + 9);
        due("answers of MAX", x.voice(0, 1, MAX), -2);
        due("answers of MIN", x.voice(0, 1, MIN), 0);
        due("answers of 2 to the 30th", x.voice(0, 1, 1 << 30), MIN);
        x.become(0, 9);
        due("waits of 2 to the 30th", x.voice(0, 2, 1 << 30), MAX - 8);
        x.become(0, 10);
        due("VILLA rings of MIN", x.voice(0, 0, MIN), MAX - 3);
        due("VILLA rings of MIN + 4", x.voice(0, 0, MIN + 4), MIN);
        x.become(0, 20);
        due("SHOP answers of 2 to the 30th", x.voice(0, 1, 1 << 30), MIN);
        x.become(0, 40);
        due("MANOR rings of MAX", x.voice(0, 0, MAX), (MAX - 4) * 3);
        due("MANOR answers of MAX", x.voice(0, 1, MAX), (MAX - 4) * 6);
        x.become(9, 49);
        due("MANOR waits, k 9", x.voice(9, 2, 0), ((9 - 4) * 6 - 9) ^ 9);
        due("MANOR waits below 0, k 9", x.voice(9, 2, -9), ((-4) * 6 - 9) ^ 9);
        x.become(0, 50);
        due("KIOSK answers of MAX", x.voice(0, 1, MAX), 0);
        due("KIOSK answers of MAX - 1", x.voice(0, 1, MAX - 1), 2);
        x.become(0, 69);
        due("FIELD rings of MAX", x.voice(0, 0, MAX), 9);
        due("FIELD answers of MIN", x.voice(0, 1, MIN), 18 + 9);
        due("FIELD waits of MIN", x.voice(0, 2, MIN), 18);
        due("none is an ERROR", x.told(1), 0);
    }

    /** Quotients are cut toward 0: x / 2. */
    private static void halvesCutTowardNone() {
        StreetNumbers x = house(30, 1);
        int[] xs = {0, 1, 2, 3, -1, -2, -3, MAX, MIN, MIN + 1};
        int[] halves = {0, 0, 1, 1, 0, -1, -1, 1073741823, -1073741824, -1073741823};
        for (int i = 0; i < xs.length; i++) {
            due("CORNER waits of " + xs[i], x.voice(0, 2, xs[i]), halves[i] * 2);
        }
    }

    /** x by (m - k), cut (PARTED if that is 0); of each KIND, each k and each m. */
    private static void parted() {
        for (int kind = 0; kind < 7; kind++) {
            StreetNumbers x = tens(10);
            for (int k = 0; k < 10; k++) {
                int villas = kind == 1 ? (1 + k - 4) * 2 : kind == 4 ? (1 + k - 4) * 6 : 0;
                for (int m = 0; m < 10; m++) {
                    x.become(k, 10 * kind + m);
                    int want = m == k ? PARTED : 100 / (m - k) + villas;
                    due("parts of KIND " + kind + ", k " + k + ", m " + m, x.voice(k, 3, 100), want);
                }
            }
            due("told PARTED", x.told(6), 10);
            x.become(9, 9);
            due("0 by 0 is PARTED", x.voice(9, 3, 0), PARTED);
            due("MIN by 0 is PARTED", x.voice(9, 3, MIN), PARTED);
        }
    }

    private static void partsCutTowardNone() {
        StreetNumbers x = tens(3);
        x.become(0, 2);
        int[][] byTwo = {{7, 3}, {-7, -3}, {1, 0}, {-1, 0}, {0, 0}, {MAX, 1073741823}, {MIN, -1073741824}};
        for (int[] one : byTwo) {
            due(one[0] + " by 2", x.voice(0, 3, one[0]), one[1]);
        }
        x.become(2, 0);
        int[][] byLess = {{7, -3}, {-7, 3}, {1, 0}, {-1, 0}, {MAX, -1073741823}, {MIN, 1073741824}};
        for (int[] one : byLess) {
            due(one[0] + " by -2", x.voice(2, 3, one[0]), one[1]);
        }
        x.become(2, 1);
        due("MAX by -1", x.voice(2, 3, MAX), -MAX);
        due("MIN by -1", x.voice(2, 3, MIN), MIN);
    }

    /** A VOICE of a HOUSE: any number; what only looks like an ERROR is none. */
    private static void answersLikeErrors() {
        StreetNumbers x = house(0, 1);
        for (int v : new int[] {BEYOND, NONE, STATE, FULL, KIND, PARTED, PARTED - 1, -1000000000, MIN, MAX}) {
            due("rings of " + v, x.voice(0, 0, v), v);
            due("its BODY", x.body(0), 10);
        }
        for (int k = 1; k <= 6; k++) {
            due("no ERROR " + k, x.told(k), 0);
        }
        x.become(0, 1);
        due("parts by 1", x.voice(0, 3, PARTED), PARTED);
        due("isn't PARTED", x.told(6), 0);
        due("parts by 0", x.become(0, 0) + x.voice(0, 3, 5), PARTED);
        due("is PARTED", x.told(6), 1);
    }

    /** voice: BEYOND, of a HOUSE and of a VOICE; ahead of PARTED. */
    private static void housesAndVoices() {
        for (int n : new int[] {0, 1, 10}) {
            StreetNumbers x = tens(n);
            for (int h : new int[] {-1, n, n + 1, MIN, MAX}) {
                for (int voice = 0; voice < 4; voice++) {
                    due(n + " HOUSES: voice " + voice + " of " + h, x.voice(h, voice, 5), BEYOND);
                }
            }
            due("none began", x.count(5), 0);
            for (int voice : new int[] {-1, 4, 5, MIN, MAX}) {
                due(n + " HOUSES: voice " + voice, x.voice(0, voice, 5), BEYOND);
            }
            due("told", x.told(1), 25);
            due("none PARTED", x.told(6), 0);
            if (n > 0) {
                due("the first rings", x.voice(0, 0, 5), 5);
                due("the last rings", x.voice(n - 1, 0, 5), 4 + n);
            }
        }
    }

    private static void dueTrace(String what, StreetNumbers x, int... bodies) {
        due(what + ": BODIES", x.count(5), bodies.length);
        for (int i = 0; i < bodies.length; i++) {
            due(what + ": BODY " + i, x.body(i), bodies[i]);
        }
        for (int i : new int[] {-1, bodies.length, bodies.length + 1, 29, 30, MIN, MAX}) {
            due(what + ": BODY " + i, x.body(i), NONE);
        }
    }

    /** THE TRACE's i-th. NONE: there is none such. */
    private static void placesInTheTrace() {
        StreetNumbers x = new StreetNumbers();
        dueTrace("of no voice()", x);
        due("told NONE", x.told(2), 7);
        x.build(49, 0, 1);
        x.voice(0, 2, 1);
        dueTrace("the longest", x, 51, 12, 11, 50, 20, 10);
        x.become(0, 60);
        x.voice(0, 0, 1);
        dueTrace("the shortest", x, 70);
    }

    /** Of the latest voice(), as they began; one that answers BEYOND begins none, one that parts ends there. */
    private static void theLatestVoice() {
        StreetNumbers x = tens(2);
        x.become(0, 49);
        x.become(1, 55);
        x.voice(0, 3, 5);
        dueTrace("what stands left first", x, 21, 13, 11, 50, 20, 10);
        x.voice(1, 2, 5);
        dueTrace("of the other", x, 12, 60, 30, 11, 10);
        x.voice(2, 0, 5);
        x.voice(0, 4, 5);
        x.voice(0, -1, 5);
        dueTrace("BEYOND begins none", x, 12, 60, 30, 11, 10);
        x.become(1, 0);
        dueTrace("of the KIND that it was", x, 12, 60, 30, 11, 10);
        x.become(0, 40);
        x.voice(0, 3, 5);
        dueTrace("ends with the one that parted", x, 21, 13);
        x.become(0, 60);
        x.voice(0, 3, 5);
        dueTrace("FIELD that parts", x, 13);
        x.image();
        x.voice(0, 1, 5);
        x.restore();
        dueTrace("stays as no IMAGE has it", x, 71, 11, 70);
    }

    /** A SHEET has n numbers (at most 24); 0: it is missing, n doesn't matter. */
    private static void numbersOfASheet() {
        for (int bits : new int[] {8, 16, 32}) {
            StreetNumbers x = tens(1);
            for (int n : new int[] {0, 1, 23, 24}) {
                due(n + " numbers of " + bits, x.sheet(0, bits, n), 1);
                due("one behind the last", x.put(0, n, 1), BEYOND);
                due("the last", x.put(0, n - 1, 1), n == 0 ? BEYOND : 1);
            }
            for (int n : new int[] {25, 26, MAX}) {
                due(n + " numbers of " + bits, x.sheet(0, bits, n), BEYOND);
            }
            for (int n : new int[] {-1, -2, -25, MIN}) {
                due(n + " numbers of " + bits, x.sheet(0, bits, n), STATE);
            }
            due("24 stay", x.put(0, 23, 1), 1);
            due("told STATE", x.told(3), 4);
        }
        StreetNumbers x = new StreetNumbers();
        for (int n : new int[] {0, 24, 25, -1, MIN, MAX}) {
            x.sheet(0, 8, 1);
            due("0 bits, n " + n, x.sheet(0, 0, n), 1);
            due("is missing", x.put(0, 0, 1), NONE);
            due("0 bits once more, n " + n, x.sheet(0, 0, n), 1);
        }
        due("no STATE", x.told(3), 0);
    }

    /** All 0, also when it had others. */
    private static void allAreNone() {
        StreetNumbers x = tens(3);
        for (int bits : new int[] {8, 16, 32}) {
            sheetOf(x, 0, bits, 5, 6, 7);
            due("anew", x.sheet(0, bits, 3), 1);
            x.put(0, 0, 9);
            due("the second is 0", x.plates(0), 1);
            x.put(0, 1, 9);
            due("the third is 0", x.plates(0), 2);
        }
        sheetOf(x, 0, 16, 5, 6, 7);
        x.sheet(0, 0, 0);
        x.sheet(0, 16, 3);
        x.put(0, 0, 9);
        due("the second is 0, after it was missing", x.plates(0), 1);
        sheetOf(x, 0, 16, 5, 6, 7);
        x.sheet(0, 16, 1);
        x.sheet(0, 16, 3);
        x.put(0, 0, 9);
        due("the second is 0, after there was none", x.plates(0), 1);
        sheetOf(x, 0, 16, 5, 6, 7);
        x.sheet(1, 16, 3);
        due("another stays", x.plates(0), 3);
        x.sheet(1, 0, 3);
        due("another stays still", x.plates(0), 3);
    }

    /** sheet: SHEETS 0 .. 3, bits 0, 8, 16, 32; BEYOND, STATE, BEYOND of n. */
    private static void bitsOfASheet() {
        StreetNumbers x = new StreetNumbers();
        for (int sheet = 0; sheet < 4; sheet++) {
            for (int bits : new int[] {8, 16, 32, 0}) {
                due("SHEET " + sheet + " of " + bits, x.sheet(sheet, bits, 2), 1);
            }
        }
        for (int sheet : new int[] {-1, 4, MIN, MAX}) {
            due("SHEET " + sheet, x.sheet(sheet, 8, 2), BEYOND);
            due("SHEET " + sheet + ", missing", x.sheet(sheet, 0, 2), BEYOND);
            due("SHEET " + sheet + ", n -1", x.sheet(sheet, 8, -1), BEYOND);
        }
        for (int bits : new int[] {-1, 1, 7, 9, 15, 17, 24, 31, 33, 64, -8, -32, MIN, MAX}) {
            due("of " + bits, x.sheet(0, bits, 2), BEYOND);
            due("of " + bits + ", n -1", x.sheet(0, bits, -1), BEYOND);
            due("of " + bits + ", n 25", x.sheet(0, bits, 25), BEYOND);
        }
        due("no STATE", x.told(3), 0);
        due("still missing", x.put(0, 0, 1), NONE);
    }

    /** put: BEYOND: no such SHEET. NONE: it is missing. BEYOND: no such number. */
    private static void numbersOfPut() {
        StreetNumbers x = new StreetNumbers();
        x.sheet(0, 8, 24);
        x.sheet(1, 16, 1);
        x.sheet(2, 32, 0);
        for (int i : new int[] {-1, 24, 25, MIN, MAX}) {
            due("number " + i + " of 24", x.put(0, i, 1), BEYOND);
            due("number " + i + " of a missing one", x.put(3, i, 1), NONE);
            due("number " + i + " of none such", x.put(4, i, 1), BEYOND);
        }
        due("the first of 24", x.put(0, 0, 1), 1);
        due("the last of 24", x.put(0, 23, 1), 1);
        due("the only one", x.put(1, 0, 1), 1);
        due("the one behind it", x.put(1, 1, 1), BEYOND);
        due("of none", x.put(2, 0, 1), BEYOND);
        due("of none, -1", x.put(2, -1, 1), BEYOND);
        for (int sheet : new int[] {-1, 4, MIN, MAX}) {
            due("of SHEET " + sheet, x.put(sheet, 0, 1), BEYOND);
        }
        due("told NONE", x.told(2), 5);
    }

    /** v (its lowest bits), with their sign. */
    private static void lowestBits() {
        int[][] puts = {{8, 1, 1}, {8, 127, 127}, {8, 128, 0}, {8, 129, 0}, {8, 255, 0}, {8, 256, 0}, {8, 257, 1},
            {8, 383, 127}, {8, 384, 0}, {8, -1, 0}, {8, -128, 0}, {8, -129, 127}, {8, -255, 1}, {8, -256, 0},
            {8, MIN, 0}, {8, MAX, 0}, {8, MIN + 5, 5}, {16, 127, 127}, {16, 128, 128}, {16, 255, 255}, {16, 256, 256},
            {16, 999, 999}, {16, 1000, 0}, {16, 32767, 0}, {16, 32768, 0}, {16, 32769, 0}, {16, 65535, 0},
            {16, 65536, 0}, {16, 65537, 1}, {16, 66535, 999}, {16, -1, 0}, {16, -65535, 1}, {16, MIN, 0}, {16, MAX, 0},
            {16, MIN + 999, 999}, {32, 1, 1}, {32, 999, 999}, {32, 1000, 0}, {32, 65537, 0}, {32, 257, 257},
            {32, -1, 0}, {32, MIN, 0}, {32, MIN + 1, 0}, {32, MAX, 0}};
        for (int[] one : puts) {
            StreetNumbers x = street(500);
            sheetOf(x, 0, one[0], one[1]);
            String what = one[1] + " in " + one[0] + " bits";
            due(what, x.plates(0), one[2] == 0 ? 0 : 1);
            due(what + ", the PLATE", x.houseIs(0, 2), one[2] == 0 ? 500 : one[2]);
        }
    }

    private static StreetNumbers rows() {
        StreetNumbers x = tens(10);
        sheetOf(x, 0, 16, 11, 12, 13, 14, 15);
        sheetOf(x, 1, 16, 21, 22, 23);
        return x;
    }

    private static void duePlates(String what, StreetNumbers x, int sheet, int... plates) {
        due(what, x.plates(sheet), plates.length);
        for (int h = 0; h < plates.length; h++) {
            due(what + ": number " + h, x.houseIs(h, 2), plates[h]);
        }
    }

    /** BEYOND: n, i, or j is below 0, or they don't stand there. */
    private static void numbersOfMove() {
        int[][] goes = {{0, 0, 3}, {2, 0, 3}, {4, 2, 1}, {0, 2, 1}, {4, 0, 1}, {0, 0, 0}, {4, 2, 0}, {5, 3, 0}};
        for (int[] one : goes) {
            due(one[2] + " from " + one[0] + " to " + one[1], rows().move(0, one[0], 1, one[1], one[2]), one[2]);
        }
        int[][] beyond = {{0, 0, 4}, {3, 0, 3}, {0, 1, 3}, {5, 0, 1}, {0, 3, 1}, {6, 0, 0}, {0, 4, 0}, {-1, 0, 1},
            {0, -1, 1}, {0, 0, -1}, {-1, 0, 0}, {0, -1, 0}, {1, 1, -1}, {-1, -1, 3}, {0, 0, MAX}, {1, 0, MAX},
            {0, 1, MAX}, {MAX, 0, 1}, {0, MAX, 1}, {MAX, MAX, MAX}, {MAX, 0, MAX}, {MIN, 0, 1}, {0, MIN, 1},
            {0, 0, MIN}, {1, 1, MIN}, {MIN, MIN, MIN}, {MIN, 0, MAX}, {MAX, 0, 0}, {0, MAX, 0}, {MAX - 1, 0, 3},
            {0, MAX - 1, 3}};
        StreetNumbers x = rows();
        for (int[] one : beyond) {
            due(one[2] + " from " + one[0] + " to " + one[1], x.move(0, one[0], 1, one[1], one[2]), BEYOND);
        }
        due("told", x.told(1), beyond.length);
        duePlates("the one stays", x, 0, 11, 12, 13, 14, 15);
        duePlates("the other stays", x, 1, 21, 22, 23);
        x.sheet(2, 16, 0);
        due("none of no numbers", x.move(2, 0, 2, 0, 0), 0);
        due("one of no numbers", x.move(2, 0, 2, 0, 1), BEYOND);
        due("one to no numbers", x.move(0, 0, 2, 0, 1), BEYOND);
        due("one from no numbers", x.move(2, 0, 0, 0, 1), BEYOND);
        x.sheet(2, 16, 24);
        x.sheet(3, 16, 24);
        due("24", x.move(2, 0, 3, 0, 24), 24);
        due("25", x.move(2, 0, 3, 0, 25), BEYOND);
        due("24 from 1", x.move(2, 1, 3, 0, 24), BEYOND);
    }

    /** To another one (or the same), as they all were. */
    private static void movedAsTheyAllWere() {
        StreetNumbers x = rows();
        due("one up", x.move(0, 0, 0, 1, 4), 4);
        duePlates("one up", x, 0, 11, 11, 12, 13, 14);
        x = rows();
        due("two up", x.move(0, 0, 0, 2, 3), 3);
        duePlates("two up", x, 0, 11, 12, 11, 12, 13);
        x = rows();
        due("one down", x.move(0, 1, 0, 0, 4), 4);
        duePlates("one down", x, 0, 12, 13, 14, 15, 15);
        x = rows();
        due("all where they stand", x.move(0, 0, 0, 0, 5), 5);
        duePlates("all where they stand", x, 0, 11, 12, 13, 14, 15);
        due("none", x.move(0, 0, 1, 0, 0), 0);
        duePlates("none came", x, 1, 21, 22, 23);
        due("one", x.move(0, 4, 1, 1, 1), 1);
        duePlates("one came", x, 1, 21, 15, 23);
        duePlates("and stands there, too", x, 0, 11, 12, 13, 14, 15);
        sheetOf(x, 2, 8, -1, 5);
        sheetOf(x, 3, 8, 7, 7);
        due("a sign goes along", x.move(2, 0, 3, 0, 2), 2);
        due("it is no PLATE", x.plates(3), 0);
    }

    /** BEYOND: no such SHEET. NONE: one is missing. KIND: unlike bits. BEYOND. */
    private static void orderOfMove() {
        StreetNumbers x = rows();
        x.sheet(2, 8, 5);
        for (int sheet : new int[] {-1, 4, MIN, MAX}) {
            due("from SHEET " + sheet, x.move(sheet, 0, 0, 0, 1), BEYOND);
            due("to SHEET " + sheet, x.move(0, 0, sheet, 0, 1), BEYOND);
            due("from a missing one to SHEET " + sheet, x.move(3, 0, sheet, 0, 1), BEYOND);
            due("from SHEET " + sheet + " to a missing one", x.move(sheet, 0, 3, 0, 1), BEYOND);
        }
        due("from a missing one", x.move(3, 0, 0, 0, 1), NONE);
        due("to a missing one", x.move(0, 0, 3, 0, 1), NONE);
        due("missing ahead of n -1", x.move(0, 0, 3, 0, -1), NONE);
        due("missing ahead of i -1", x.move(3, -1, 0, 0, 1), NONE);
        due("a missing one to itself", x.move(3, 0, 3, 0, 0), NONE);
        due("16 to 8", x.move(0, 0, 2, 0, 1), KIND);
        due("8 to 16", x.move(2, 0, 0, 0, 1), KIND);
        due("unlike ahead of n -1", x.move(0, 0, 2, 0, -1), KIND);
        due("unlike ahead of i -1", x.move(0, -1, 2, 0, 1), KIND);
        due("unlike ahead of j too far", x.move(0, 0, 2, 9, 1), KIND);
        due("unlike, none", x.move(0, 0, 2, 0, 0), KIND);
        x.sheet(2, 32, 5);
        due("16 to 32", x.move(0, 0, 2, 0, 1), KIND);
        due("told BEYOND", x.told(1), 16);
        due("told NONE", x.told(2), 5);
        due("told KIND", x.told(5), 7);
    }

    /** How many, up to the first that is not 1 to 999 (no ERROR then), or for which there is no HOUSE. */
    private static void platesUpTo() {
        for (int bad : new int[] {0, -1, 1000, 1001, MIN, MAX}) {
            for (int at = 0; at < 3; at++) {
                StreetNumbers x = street(5, 6, 7);
                sheetOf(x, 0, 32, 1, 999, 500);
                x.put(0, at, bad);
                due(bad + " at " + at, x.plates(0), at);
                due("the first", x.houseIs(0, 2), at > 0 ? 1 : 5);
                due("the second", x.houseIs(1, 2), at > 1 ? 999 : 6);
                due("the third", x.houseIs(2, 2), 7);
                due("DONE stays", x.count(2), 0);
                due("no ERROR", x.told(1) + x.told(2) + x.told(3), 0);
            }
        }
        StreetNumbers x = street(5, 6, 7);
        sheetOf(x, 0, 16, 1, 999, 2);
        due("1, 999, 2", x.plates(0), 3);
        duePlates("again", x, 0, 1, 999, 2);
    }

    private static void platesWithoutHouses() {
        StreetNumbers x = new StreetNumbers();
        sheetOf(x, 0, 8, 1, 2, 3);
        due("no HOUSES", x.plates(0), 0);
        due("no ERROR", x.told(1), 0);
        x.build(0, 0, 50);
        due("one HOUSE", x.plates(0), 1);
        due("its PLATE", x.houseIs(0, 2), 1);
        StreetNumbers y = tens(10);
        y.sheet(0, 16, 24);
        for (int i = 0; i < 24; i++) {
            y.put(0, i, 999 - i);
        }
        due("24 numbers, ten HOUSES", y.plates(0), 10);
        due("the last", y.houseIs(9, 2), 990);
        y.sheet(0, 16, 0);
        due("no numbers", y.plates(0), 0);
        StreetNumbers z = tens(3);
        sheetOf(z, 0, 16, 7, 8);
        due("fewer numbers", z.plates(0), 2);
        due("the third stays", z.houseIs(2, 2), 30);
        for (StreetNumbers one : new StreetNumbers[] {x, y, z}) {
            for (int sheet : new int[] {-1, 4, MIN, MAX}) {
                due("plates of SHEET " + sheet, one.plates(sheet), BEYOND);
                due("judge of SHEET " + sheet, one.judge(sheet), BEYOND);
            }
            due("plates of a missing one", one.plates(3), NONE);
            due("judge of a missing one", one.judge(3), NONE);
        }
    }

    /** How many are right, from the first on; 0 is right ahead of PLACE 0. */
    private static void judgedFromTheFirstOn() {
        StreetNumbers x = tens(10);
        sheetOf(x, 0, 8, 0, 6, 12, 18, 24, 30, 36, 42, 48, 54);
        due("ten of ten", x.judge(0), 10);
        for (int i = 0; i < 10; i++) {
            x.put(0, i, 6 * i + 1);
            due("number " + i + " is one more", x.judge(0), i);
            x.put(0, i, 6 * i - 1);
            due("number " + i + " is one less", x.judge(0), i);
            x.put(0, i, 6 * i);
        }
        sheetOf(x, 0, 16, 0, 6, 12, 19, 24, 30);
        due("what is right behind a wrong one", x.judge(0), 3);
        sheetOf(x, 0, 16);
        due("no numbers", x.judge(0), 0);
        sheetOf(x, 0, 16, 0);
        due("one number", x.judge(0), 1);
        textOf(x, 1, "99");
        sheetOf(x, 0, 16, 0, 99, 198, 297, 396, 495, 594, 693, 792, 891);
        due("99 each", x.judge(0), 10);
        StreetNumbers y = new StreetNumbers();
        y.build(5, 0, 1);
        y.build(10, 0, 1);
        sheetOf(y, 0, 8, 0, 12);
        due("by PLACE, not by HOUSE", y.judge(0), 2);
        due("PLATES stay", y.houseIs(0, 2), 1);
        sheetOf(y, 0, 8, 0, 12, 23);
        due("a number for which there is no HOUSE isn't right (NOTES.md)", y.judge(0), 2);
        StreetNumbers none = new StreetNumbers();
        sheetOf(none, 0, 8, 0, 0);
        due("no HOUSES (NOTES.md)", none.judge(0), 0);
    }

    /** How often that was done: not kept, not told anew by restore(). */
    private static void howOftenImaged() {
        StreetNumbers x = new StreetNumbers();
        due("none", x.restore(), NONE);
        for (int i = 1; i <= 200; i++) {
            due("image", x.image(), i);
        }
        due("restore", x.restore(), 0);
        due("goes on", x.image(), 201);
        due("told NONE", x.told(2), 1);
    }

    /** The IMAGE stays; one more takes the place of the one ahead. */
    private static void imageStays() {
        StreetNumbers x = tens(1);
        x.year(5);
        x.image();
        for (int i = 0; i < 3; i++) {
            x.year(100 + i);
            x.renames(0, 200 + i);
            x.become(0, 69);
            x.build(0, 0, 7);
            textOf(x, 0, "99");
            x.feed('9', 1);
            x.tell(7);
            x.seed(i);
            due("YEAR", x.restore(), 5);
            due("HOUSES", x.count(0), 1);
            due("YEAR is", x.count(1), 5);
            due("DONE", x.count(2), 0);
            due("THE TAPE", x.count(3), 0);
            due("none waits", x.count(4), 0);
            due("z", x.count(6), 1);
            due("PLATE", x.houseIs(0, 2), 10);
            due("KIND", x.houseIs(0, 0), 0);
            due("PLACE", x.houseIs(0, 3), 0);
            due("no TEXT", x.untell(0), 0);
        }
        x.year(9999);
        due("second", x.image(), 2);
        x.year(0);
        due("the later", x.restore(), 9999);
    }

    /** An IMAGE of an empty street, and of all that can be full. */
    private static void imageOfAll() {
        StreetNumbers x = new StreetNumbers();
        x.image();
        full(x);
        due("YEAR 0", x.restore(), 0);
        int[] none = {0, 0, 0, 0, 0, 0, 1};
        for (int what = 0; what < 7; what++) {
            due("empty again: count " + what, x.count(what), none[what]);
        }
        due("no TEXT", x.untell(0) + x.untell(1), 0);
        due("no HOUSE stands", x.standing(0), BEYOND);
        due("none waits", x.check(), 0);
        due("an empty TAPE", x.text(0), -10);
        full(x);
        x.image();
        x.check();
        x.text(1);
        x.untell(0);
        x.renumber(50);
        x.year(0);
        x.seed(0);
        due("YEAR 9999", x.restore(), 9999);
        int[] most = {10, 9999, 0, 60, 24, 0, MIN};
        for (int what = 0; what < 7; what++) {
            due("full again: count " + what, x.count(what), most[what]);
        }
        for (int h = 0; h < 10; h++) {
            due("HOUSE " + h + ", PLACE", x.houseIs(h, 3), 9 - h);
            due("HOUSE " + h + ", PLATE", x.houseIs(h, 2), 990 + h);
            due("HOUSE " + h + ", KIND", x.houseIs(h, 0), h % 7);
            due("HOUSE " + h + ", m", x.houseIs(h, 1), h);
        }
        due("24 waited", x.check(), 11);
        due("the TEXT", x.law(0, 3, 0, 0), 33);
        due("THE TAPE is a TEXT", x.text(1), 1);
        due("and all of it", x.law(1, 1, 0, 0), 39);
    }

    private static void full(StreetNumbers x) {
        for (int h = 0; h < 10; h++) {
            x.build(10 * (h % 7) + h, 0, 990 + h);
        }
        x.year(9999);
        textOf(x, 0, "h*11");
        feedAll(x, "y" + "+1".repeat(28) + "+10");
        for (int i = 0; i < 24; i++) {
            x.tell(990 + i);
        }
        x.seed(MIN);
    }

    /** All (but SHEETS, THE TRACE, what told() tells, and how often this was done). */
    private static void sheetsAreNotKept() {
        StreetNumbers x = tens(3);
        sheetOf(x, 0, 8, 7);
        sheetOf(x, 1, 16, 5);
        x.voice(0, 1, 1);
        x.standing(9);
        x.image();
        sheetOf(x, 0, 16, 300, 400);
        x.sheet(1, 0, 0);
        sheetOf(x, 2, 8, 4);
        x.voice(0, 0, 1);
        x.standing(9);
        x.odds(5);
        x.restore();
        due("a SHEET as it is now", x.plates(0), 2);
        due("its number", x.houseIs(1, 2), 400);
        due("one that is missing now", x.plates(1), NONE);
        due("one that wasn't there", x.plates(2), 1);
        due("THE TRACE of now", x.count(5), 1);
        due("its BODY", x.body(0), 10);
        due("told as now", x.told(1), 3);
        due("how often", x.image(), 2);
    }

    /** FULL: 24 wait. */
    private static void waitingNumbers() {
        StreetNumbers x = new StreetNumbers();
        for (int i = 1; i <= 24; i++) {
            due("tell " + i, x.tell(i % 3 == 0 ? BEYOND : i % 3 == 1 ? MIN : MAX), i);
            due("so many wait", x.count(4), i);
        }
        due("the 25th", x.tell(1), FULL);
        due("24 wait", x.count(4), 24);
        due("FULL again", x.tell(MIN), FULL);
        due("told FULL", x.told(4), 2);
        due("no BEYOND", x.told(1), 0);
        due("the first isn't so", x.check(), 1);
        due("none waits", x.count(4), 0);
        due("the first again", x.tell(1), 1);
    }

    /** check: 0; else 1 and the place (from 0) of the first that isn't so (or for which there is no HOUSE). */
    private static void checkedNumbers() {
        due("none waits, no HOUSE", tens(0).check(), 0);
        due("none waits, ten HOUSES", tens(10).check(), 0);
        for (int n = 0; n <= 10; n++) {
            for (int told = 1; told <= 11; told++) {
                StreetNumbers x = tens(n);
                for (int i = 0; i < told; i++) {
                    x.tell(10 * (i + 1));
                }
                due(told + " told to " + n + " HOUSES", x.check(), told <= n ? 0 : n + 1);
                due("none waits then", x.count(4), 0);
                due("so none is amiss", x.check(), 0);
            }
        }
        for (int amiss = 0; amiss < 10; amiss++) {
            for (int by : new int[] {-1, 1, 10}) {
                StreetNumbers x = tens(10);
                for (int i = 0; i < 10; i++) {
                    x.tell(10 * (i + 1) + (i >= amiss ? by : 0));
                }
                due("amiss from " + amiss + " on", x.check(), amiss + 1);
                due("none waits then", x.count(4), 0);
            }
        }
        StreetNumbers x = tens(10);
        for (int i = 0; i < 24; i++) {
            x.tell(10 * (i + 1));
        }
        due("24 told to ten", x.check(), 11);
    }

    private static void checkedByHouse() {
        StreetNumbers x = new StreetNumbers();
        x.build(0, 0, 7);
        x.build(0, 0, 9);
        x.tell(7);
        x.tell(9);
        due("by HOUSE", x.check(), 0);
        x.tell(9);
        x.tell(7);
        due("not by PLACE", x.check(), 1);
        for (int v : new int[] {0, -1, MIN, MAX}) {
            x.tell(7);
            x.tell(9);
            x.tell(v);
            due(v + " for no HOUSE", x.check(), 3);
        }
    }

    /** count: what 0 .. 6. */
    private static void counts() {
        StreetNumbers x = new StreetNumbers();
        full(x);
        x.voice(0, 0, 1);
        int[] most = {10, 9999, 0, 60, 24, 1, MIN};
        for (int what = 0; what < 7; what++) {
            due("count " + what, x.count(what), most[what]);
        }
        for (int what : new int[] {-1, 7, 8, MIN, MAX}) {
            due("count " + what, x.count(what), BEYOND);
        }
        due("told", x.told(1), 5);
        x.seed(NONE);
        due("z like an ERROR", x.count(6), NONE);
        due("is none", x.told(2), 0);
    }

    /** told: k 1 .. 6; BEYOND: another k (counted, too). */
    private static void toldOfEach() {
        StreetNumbers x = tens(10);
        x.become(0, 0);
        for (int i = 1; i <= 3; i++) {
            x.standing(10);
            x.restore();
            x.sheet(0, 8, -1);
            x.build(0, 0, 1);
            x.as(0, 6);
            x.voice(0, 3, 1);
            for (int k = 1; k <= 6; k++) {
                due("told " + k, x.told(k), i);
            }
        }
        int beyond = 3;
        for (int k : new int[] {0, 7, -1, 8, MIN, MAX}) {
            due("told " + k, x.told(k), BEYOND);
            beyond++;
            due("counted, too", x.told(1), beyond);
        }
        for (int k = 2; k <= 6; k++) {
            due("the others stay, " + k, x.told(k), 3);
        }
    }

    /** An object is used for at most 512 calls: the last of them answers as the first. */
    private static void lastCall() {
        StreetNumbers x = new StreetNumbers();
        for (int i = 0; i < 511; i++) {
            x.standing(0);
        }
        due("the 512th call", x.told(1), 511);
        StreetNumbers y = new StreetNumbers();
        for (int i = 0; i < 511; i++) {
            y.image();
        }
        due("the 512th image", y.image(), 512);
        StreetNumbers z = tens(10);
        for (int i = 0; i < 501; i++) {
            z.renumber(1 + i % 2);
        }
        due("DONE at last", z.count(2), 9 * 55 + 500 * 55);
    }

    private static void objectsShareNothing() {
        StreetNumbers x = new StreetNumbers();
        StreetNumbers y = new StreetNumbers();
        full(x);
        x.image();
        sheetOf(x, 0, 8, 1);
        x.voice(1, 0, 1);
        x.standing(-1);
        int[] none = {0, 0, 0, 0, 0, 0, 1};
        for (int what = 0; what < 7; what++) {
            due("of the other: count " + what, y.count(what), none[what]);
        }
        due("of the other: no SHEET", y.plates(0), NONE);
        due("of the other: no IMAGE", y.restore(), NONE);
        due("of the other: no TEXT", y.law(0, 5, 0, 0), 5);
        due("of the other: no BODY", y.body(0), NONE);
        due("of the other: no BEYOND", y.told(1), 0);
        due("of the other: NONE", y.told(2), 3);
    }
}
