/** What the tests begin with: the ERRORS, streets, TEXTS, SHEETS. */
abstract class Given {
    static final int BEYOND = -1000000001;
    static final int NONE = -1000000002;
    static final int STATE = -1000000003;
    static final int FULL = -1000000004;
    static final int KIND = -1000000005;
    static final int PARTED = -1000000006;
    static final int MIN = Integer.MIN_VALUE;
    static final int MAX = Integer.MAX_VALUE;
    static final int[] WILD = {MIN, MIN + 1, -1000000000, -1, MAX - 1, MAX};

    /** COTTAGES with m 0 and these PLATES, from the church on. */
    static StreetNumbers street(int... plates) {
        StreetNumbers x = new StreetNumbers();
        for (int i = 0; i < plates.length; i++) {
            x.build(0, i, plates[i]);
        }
        return x;
    }

    /** As many COTTAGES, with PLATES 10, 20, .. */
    static StreetNumbers tens(int houses) {
        StreetNumbers x = new StreetNumbers();
        for (int i = 0; i < houses; i++) {
            x.build(0, i, 10 * (i + 1));
        }
        return x;
    }

    /** One HOUSE. */
    static StreetNumbers house(int km, int plate) {
        StreetNumbers x = new StreetNumbers();
        x.build(km, 0, plate);
        return x;
    }

    static int feedAll(StreetNumbers x, String tape) {
        int size = -1;
        for (int from = 0; from < tape.length(); from += 8) {
            int to = Math.min(tape.length(), from + 8);
            long word = 0;
            for (int i = to - 1; i >= from; i--) {
                word = word << 8 | tape.charAt(i);
            }
            size = x.feed(word, to - from);
        }
        return size;
    }

    static int textOf(StreetNumbers x, int use, String tape) {
        feedAll(x, tape);
        return x.text(use);
    }

    static void sheetOf(StreetNumbers x, int sheet, int bits, int... numbers) {
        x.sheet(sheet, bits, numbers.length);
        for (int i = 0; i < numbers.length; i++) {
            x.put(sheet, i, numbers[i]);
        }
    }
}
