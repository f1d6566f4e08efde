/**
 * Numbers on a new street. The document (../shared/DOC.md) says what each call answers; the words
 * in capitals are its terms.
 */
public final class StreetNumbers {

    private static final int LOW = -1000000000;
    private static final int BEYOND = 1;
    private static final int NONE = 2;
    private static final int STATE = 3;
    private static final int FULL = 4;
    private static final int KIND = 5;
    private static final int PARTED = 6;

    private static final int COTTAGE = 0;
    private static final int VILLA = 1;
    private static final int SHOP = 2;
    private static final int CORNER = 3;
    private static final int MANOR = 4;
    private static final int KIOSK = 5;
    private static final int FIELD = 6;
    private static final int KINDS = 7;
    private static final int[] KIND_ABOVE = {-1, COTTAGE, COTTAGE, COTTAGE, VILLA, SHOP, COTTAGE};

    private static final int MOST_HOUSES = 10;
    private static final int MOST_PLATE = 999;
    private static final int MOST_YEAR = 9999;
    private static final int MOST_DONE = 99999;
    private static final int MOST_GAP = 50;
    private static final int MOST_LOOSE = 30;
    private static final int MOST_TAPE = 60;
    private static final int MOST_WAITING = 24;

    private static final int HARM_USE = 0;
    private static final int YARDS_USE = 1;
    private static final int USES = 2;
    private static final int NAMES_EACH = 3;
    private static final char[] NAMES = {'h', 'y', 'o', 'y', 'b', 's'};

    private final Street street;
    private final Street kept;
    private final Reader reader;
    private final Thoughts thoughts;
    private final Voices voices;
    private final Sheets sheets;
    private final int[] errors;
    private int images;

    public StreetNumbers() {
        street = new Street();
        kept = new Street();
        reader = new Reader();
        thoughts = new Thoughts();
        voices = new Voices();
        sheets = new Sheets();
        errors = new int[PARTED + 1];
        images = 0;
    }

    // ---- houses

    public int build(int km, int place, int number) {
        if (!isKindWithM(km) || place < 0 || place > street.houses || !isPlate(number)) {
            return failing(BEYOND);
        }
        if (street.houses >= MOST_HOUSES) {
            return failing(FULL);
        }
        return street.addHouse(km / 10, km % 10, place, number);
    }

    public int houseIs(int h, int what) {
        if (!street.hasHouse(h)) {
            return failing(BEYOND);
        }
        switch (what) {
            case 0: return street.kind(h);
            case 1: return street.m(h);
            case 2: return street.plate(h);
            case 3: return street.placeOf(h);
            case 4: return street.yardsAt(street.placeOf(h));
            case 5: return street.yardsAhead(street.placeOf(h));
            default: return failing(BEYOND);
        }
    }

    public int standing(int place) {
        if (place < 0 || place >= street.houses) {
            return failing(BEYOND);
        }
        return street.houseAt(place);
    }

    public int become(int h, int km) {
        if (!street.hasHouse(h) || !isKindWithM(km)) {
            return failing(BEYOND);
        }
        int before = street.kind(h);
        street.setKind(h, km / 10, km % 10);
        return before;
    }

    public int as(int h, int kind) {
        if (!street.hasHouse(h) || kind < 0 || kind >= KINDS) {
            return failing(BEYOND);
        }
        return isOrIsUnder(street.kind(h), kind) ? street.m(h) : failing(KIND);
    }

    public int harm(int h, int number) {
        if (!street.hasHouse(h) || !isPlate(number)) {
            return failing(BEYOND);
        }
        return street.harmTo(h, number);
    }

    public int renames(int h, int number) {
        if (!street.hasHouse(h) || !isPlate(number)) {
            return failing(BEYOND);
        }
        return street.getsNumber(h, number);
    }

    public int year(int v) {
        if (v < 0 || v > MOST_YEAR) {
            return failing(BEYOND);
        }
        int before = street.year;
        street.year = v;
        return before;
    }

    // ---- texts

    public int feed(long word, int n) {
        if (n < 1 || n > 8) {
            return failing(BEYOND);
        }
        if (street.laws.taped + n > MOST_TAPE) {
            return failing(FULL);
        }
        return street.laws.addBytes(word, n);
    }

    public int text(int use) {
        if (!isUse(use)) {
            return failing(BEYOND);
        }
        Laws laws = street.laws;
        int fault = reader.faultOf(laws.tape, laws.taped, use);
        laws.taped = 0;
        if (fault >= 0) {
            return -10 - fault;
        }
        laws.takeSteps(use, reader.steps, reader.stepped);
        return 1;
    }

    public int untell(int use) {
        if (!isUse(use)) {
            return failing(BEYOND);
        }
        return street.laws.forget(use) ? 1 : 0;
    }

    public int law(int use, int a, int b, int c) {
        if (!isUse(use)) {
            return failing(BEYOND);
        }
        return street.laws.give(use, a, b, c);
    }

    // ---- numberings

    public int renumber(int gap) {
        if (gap < 1 || gap > MOST_GAP) {
            return failing(BEYOND);
        }
        return street.renumberBy(gap);
    }

    public int would(int gap) {
        if (gap < 1 || gap > MOST_GAP) {
            return failing(BEYOND);
        }
        return street.harmOfGap(gap);
    }

    public int gap(int what) {
        if (what < 0 || what > 1) {
            return failing(BEYOND);
        }
        int best = 1;
        int bestHarm = street.harmOfGap(1);
        for (int gap = 2; gap <= MOST_GAP; gap++) {
            int harm = street.harmOfGap(gap);
            if (harm < bestHarm) {
                best = gap;
                bestHarm = harm;
            }
        }
        return what == 0 ? best : bestHarm;
    }

    public int least(int what) {
        if (what < -1 || what >= MOST_HOUSES) {
            return failing(BEYOND);
        }
        if (what >= street.houses) {
            return failing(NONE);
        }
        int harm = thoughts.leastRising(street);
        return what < 0 ? harm : thoughts.risingOf(street.placeOf(what));
    }

    public int between(int place) {
        if (place < 0 || place > street.houses) {
            return failing(BEYOND);
        }
        int number = street.numberBetween(place);
        return number < 0 ? failing(NONE) : number;
    }

    public int fewest() {
        return street.houses - thoughts.longestRising(street);
    }

    public int search(int number, int what) {
        if (!isPlate(number) || what < 0 || what > 1) {
            return failing(BEYOND);
        }
        int place = thoughts.placeFound(street, number);
        if (what == 1) {
            return thoughts.looked;
        }
        return place < 0 ? failing(NONE) : street.houseAt(place);
    }

    public int odds(int part) {
        if (part < 0 || part > 1) {
            return failing(BEYOND);
        }
        if (street.houses == 0) {
            return failing(STATE);
        }
        int found = thoughts.housesFound(street);
        int common = Thoughts.commonDivisor(found, street.houses);
        return quotient(part == 0 ? found : street.houses, common);
    }

    public int order() {
        for (int place = 1; place < street.houses; place++) {
            if (street.plateAt(place) <= street.plateAt(place - 1)) {
                return 0;
            }
        }
        return 1;
    }

    public int fits(int sheet, int what) {
        if (!isSheet(sheet) || what < 0 || what > 1) {
            return failing(BEYOND);
        }
        if (sheets.isMissing(sheet)) {
            return failing(NONE);
        }
        int fitting = 0;
        int least = 0;
        for (int gap = MOST_GAP; gap >= 1; gap--) {
            if (tellsHarmOfGap(sheet, gap)) {
                fitting++;
                least = gap;
            }
        }
        if (what == 0) {
            return fitting;
        }
        return fitting == 0 ? failing(NONE) : least;
    }

    public int loose(int n) {
        if (n < 1 || n > MOST_LOOSE) {
            return failing(BEYOND);
        }
        if (street.year + n > MOST_YEAR) {
            return failing(STATE);
        }
        int built = 0;
        for (int i = 0; i < n; i++) {
            built += street.passYearByDraws();
        }
        return built;
    }

    public int seed(int v) {
        int before = street.z;
        street.z = v;
        return before;
    }

    // ---- voices, sheets, images, what is told

    public int voice(int h, int voice, int x) {
        if (!street.hasHouse(h) || voice < 0 || voice >= Voices.EACH) {
            return failing(BEYOND);
        }
        int answer = voices.answerOf(street.kind(h), h, street.m(h), voice, x);
        return voices.parted ? failing(PARTED) : answer;
    }

    public int body(int i) {
        if (i < 0 || i >= voices.traced) {
            return failing(NONE);
        }
        return voices.bodyAt(i);
    }

    public int sheet(int sheet, int bits, int n) {
        if (!isSheet(sheet) || bits != 0 && bits != 8 && bits != 16 && bits != 32) {
            return failing(BEYOND);
        }
        if (bits == 0) {
            sheets.renew(sheet, 0, 0);
            return 1;
        }
        if (n < 0) {
            return failing(STATE);
        }
        if (n > Sheets.MOST_NUMBERS) {
            return failing(BEYOND);
        }
        sheets.renew(sheet, bits, n);
        return 1;
    }

    public int put(int sheet, int i, int v) {
        if (!isSheet(sheet)) {
            return failing(BEYOND);
        }
        if (sheets.isMissing(sheet)) {
            return failing(NONE);
        }
        if (i < 0 || i >= sheets.size(sheet)) {
            return failing(BEYOND);
        }
        sheets.write(sheet, i, v);
        return 1;
    }

    public int move(int sheet, int i, int other, int j, int n) {
        if (!isSheet(sheet) || !isSheet(other)) {
            return failing(BEYOND);
        }
        if (sheets.isMissing(sheet) || sheets.isMissing(other)) {
            return failing(NONE);
        }
        if (sheets.bits(sheet) != sheets.bits(other)) {
            return failing(KIND);
        }
        if (!sheets.holds(sheet, i, n) || !sheets.holds(other, j, n)) {
            return failing(BEYOND);
        }
        sheets.copy(sheet, i, other, j, n);
        return n;
    }

    public int plates(int sheet) {
        if (!isSheet(sheet)) {
            return failing(BEYOND);
        }
        if (sheets.isMissing(sheet)) {
            return failing(NONE);
        }
        int most = Math.min(sheets.size(sheet), street.houses);
        for (int h = 0; h < most; h++) {
            int number = sheets.number(sheet, h);
            if (!isPlate(number)) {
                return h;
            }
            street.setPlate(h, number);
        }
        return most;
    }

    public int judge(int sheet) {
        if (!isSheet(sheet)) {
            return failing(BEYOND);
        }
        if (sheets.isMissing(sheet)) {
            return failing(NONE);
        }
        int most = Math.min(sheets.size(sheet), street.houses);
        int ahead = 0;
        for (int place = 0; place < most; place++) {
            if (sheets.number(sheet, place) != ahead) {
                return place;
            }
            ahead += street.yardsAt(place);
        }
        return most;
    }

    public int image() {
        kept.becomeLike(street);
        images++;
        return images;
    }

    public int restore() {
        if (images == 0) {
            return failing(NONE);
        }
        street.becomeLike(kept);
        return street.year;
    }

    public int tell(int v) {
        return street.waits >= MOST_WAITING ? failing(FULL) : street.addWaiting(v);
    }

    public int check() {
        int told = street.waits;
        street.waits = 0;
        for (int i = 0; i < told; i++) {
            if (!street.hasHouse(i) || street.waitingAt(i) != street.plate(i)) {
                return 1 + i;
            }
        }
        return 0;
    }

    public int count(int what) {
        switch (what) {
            case 0: return street.houses;
            case 1: return street.year;
            case 2: return street.done;
            case 3: return street.laws.taped;
            case 4: return street.waits;
            case 5: return voices.traced;
            case 6: return street.z;
            default: return failing(BEYOND);
        }
    }

    public int told(int k) {
        if (k < BEYOND || k > PARTED || k >= errors.length) {
            return failing(BEYOND);
        }
        return errors[k];
    }

    // Counts here and not by the answer: a voice, a seed or z may be any number without an ERROR.
    private int failing(int error) {
        if (error >= 0 && error < errors.length) {
            errors[error]++;
        }
        return LOW - error;
    }

    private boolean tellsHarmOfGap(int sheet, int gap) {
        int size = sheets.size(sheet);
        // A number for which there is no HOUSE tells HARM to none.
        if (size > street.houses) {
            return false;
        }
        for (int place = 0; place < size; place++) {
            int harm = street.harmTo(street.houseAt(place), gap * (place + 1));
            if (sheets.number(sheet, place) != harm) {
                return false;
            }
        }
        return true;
    }

    private static boolean isKindWithM(int km) {
        return km >= 0 && km < 10 * KINDS;
    }

    private static boolean isPlate(int number) {
        return number >= 1 && number <= MOST_PLATE;
    }

    private static boolean isUse(int use) {
        return use >= 0 && use < USES;
    }

    private static boolean isSheet(int sheet) {
        return sheet >= 0 && sheet < Sheets.MOST;
    }

    private static boolean isOrIsUnder(int kind, int upper) {
        int now = kind;
        for (int up = 0; up < KINDS && now >= 0; up++) {
            if (now == upper) {
                return true;
            }
            now = kindAbove(now);
        }
        return false;
    }

    private static int kindAbove(int kind) {
        return kind >= 0 && kind < KIND_ABOVE.length ? KIND_ABOVE[kind] : -1;
    }

    private static int quotient(int value, int by) {
        return by == 0 ? 0 : value / by;
    }

    private static int rest(int value, int by) {
        return by == 0 ? 0 : value % by;
    }

    private static int held(int value, int least, int most) {
        return Math.max(least, Math.min(most, value));
    }

    /** All that an IMAGE keeps: HOUSES, YEAR, DONE, z, TEXTS with THE TAPE, numbers that wait. */
    private static final class Street {
        final Laws laws;
        int houses;
        int year;
        int done;
        int z;
        int waits;
        private final int[] kinds;
        private final int[] extras;
        private final int[] signs;
        private final int[] row;
        private final int[] waiting;

        Street() {
            laws = new Laws();
            kinds = new int[MOST_HOUSES];
            extras = new int[MOST_HOUSES];
            signs = new int[MOST_HOUSES];
            row = new int[MOST_HOUSES];
            waiting = new int[MOST_WAITING];
            z = 1;
        }

        void becomeLike(Street other) {
            houses = other.houses;
            year = other.year;
            done = other.done;
            z = other.z;
            waits = other.waits;
            System.arraycopy(other.kinds, 0, kinds, 0, MOST_HOUSES);
            System.arraycopy(other.extras, 0, extras, 0, MOST_HOUSES);
            System.arraycopy(other.signs, 0, signs, 0, MOST_HOUSES);
            System.arraycopy(other.row, 0, row, 0, MOST_HOUSES);
            System.arraycopy(other.waiting, 0, waiting, 0, MOST_WAITING);
            laws.becomeLike(other.laws);
        }

        boolean hasHouse(int h) {
            return h >= 0 && h < houses && h < MOST_HOUSES;
        }

        int kind(int h) {
            return hasHouse(h) ? kinds[h] : COTTAGE;
        }

        int m(int h) {
            return hasHouse(h) ? extras[h] : 0;
        }

        int plate(int h) {
            return hasHouse(h) ? signs[h] : 0;
        }

        int houseAt(int place) {
            return hasHouse(place) ? row[place] : -1;
        }

        int plateAt(int place) {
            return plate(houseAt(place));
        }

        int placeOf(int h) {
            for (int place = 0; place < MOST_HOUSES && place < houses; place++) {
                if (row[place] == h) {
                    return place;
                }
            }
            return -1;
        }

        void setKind(int h, int kind, int m) {
            if (hasHouse(h)) {
                kinds[h] = kind;
                extras[h] = m;
            }
        }

        void setPlate(int h, int number) {
            if (hasHouse(h)) {
                signs[h] = number;
            }
        }

        int addHouse(int kind, int m, int place, int number) {
            int h = houses;
            if (h < 0 || h >= MOST_HOUSES || place < 0 || place > h) {
                return -1;
            }
            System.arraycopy(row, place, row, place + 1, h - place);
            row[place] = h;
            houses = h + 1;
            setKind(h, kind, m);
            setPlate(h, number);
            return h;
        }

        int addWaiting(int v) {
            if (waits >= 0 && waits < MOST_WAITING) {
                waiting[waits] = v;
                waits++;
            }
            return waits;
        }

        int waitingAt(int i) {
            return i >= 0 && i < MOST_WAITING ? waiting[i] : 0;
        }

        private int minds(int h, int number) {
            int apart = Math.abs(number - plate(h));
            switch (kind(h)) {
                case VILLA: return villaMinds(apart, number);
                case SHOP: return shopMinds(apart, number);
                case CORNER: return number % 2 == 0 ? apart : apart + m(h);
                case MANOR: return 3 * villaMinds(apart, number);
                case KIOSK: return shopMinds(apart, number) + (number % 10 == 4 ? 20 : 0);
                case FIELD: return 0;
                default: return apart;
            }
        }

        private static int villaMinds(int apart, int number) {
            return number % 100 == 13 ? apart + 50 : apart;
        }

        private static int shopMinds(int apart, int number) {
            return number % 10 == 8 ? 0 : apart / 2;
        }

        private int front(int h) {
            int cottages = 6 + m(h);
            switch (kind(h)) {
                case VILLA: return 2 * cottages;
                case SHOP: return cottages - 2;
                case MANOR: return 2 * cottages + 10;
                case KIOSK: return (cottages - 2) / 2;
                case FIELD: return 20 + year % 5;
                default: return cottages;
            }
        }

        int harmTo(int h, int number) {
            int plate = plate(h);
            return number == plate ? 0 : laws.give(HARM_USE, minds(h, number), year % 7, plate);
        }

        int yardsAt(int place) {
            return laws.give(YARDS_USE, front(houseAt(place)), place, year % 7);
        }

        int yardsAhead(int place) {
            int sum = 0;
            for (int ahead = 0; ahead < place; ahead++) {
                sum += yardsAt(ahead);
            }
            return sum;
        }

        int getsNumber(int h, int number) {
            int harm = harmTo(h, number);
            done = Math.min(MOST_DONE, done + harm);
            setPlate(h, number);
            return harm;
        }

        int renumberBy(int gap) {
            int sum = 0;
            for (int place = 0; place < houses; place++) {
                sum += getsNumber(houseAt(place), gap * (place + 1));
            }
            return sum;
        }

        int harmOfGap(int gap) {
            int sum = 0;
            for (int place = 0; place < houses; place++) {
                sum += harmTo(houseAt(place), gap * (place + 1));
            }
            return sum;
        }

        /** The number BETWEEN, or -1 if there is none. */
        int numberBetween(int place) {
            int low = place > 0 ? plateAt(place - 1) : 0;
            int high = place < houses ? plateAt(place) : MOST_PLATE + 1;
            if (high - low < 2) {
                return -1;
            }
            return place >= houses ? low + 1 : low + (high - low) / 2;
        }

        private int draw() {
            z = z * 1103515245 + 12345;
            return z >>> 8;
        }

        /** One YEAR BY DRAWS: how many HOUSES it built. */
        int passYearByDraws() {
            // Both are drawn even if the street is full: z goes on with the YEARS.
            int place = rest(draw(), 1 + houses);
            int kind = rest(draw(), KINDS);
            int before = houses;
            if (houses < MOST_HOUSES) {
                if (numberBetween(place) < 0) {
                    renumberBy(10);
                }
                addHouse(kind, 0, place, numberBetween(place));
            }
            year++;
            return houses - before;
        }
    }

    /** THE TAPE and the TEXTS, each as the steps of a small stack machine that Reader wrote. */
    private static final class Laws {
        private static final int NAME_STEP = 10000;

        final int[] tape;
        int taped;
        private final int[][] steps;
        private final int[] stepped;
        private final int[] stack;

        Laws() {
            tape = new int[MOST_TAPE];
            steps = new int[USES][MOST_TAPE];
            stepped = new int[USES];
            stack = new int[MOST_TAPE];
        }

        void becomeLike(Laws other) {
            taped = other.taped;
            System.arraycopy(other.tape, 0, tape, 0, MOST_TAPE);
            for (int use = 0; use < USES; use++) {
                takeSteps(use, other.steps[use], other.stepped[use]);
            }
        }

        int addBytes(long word, int n) {
            long left = word;
            for (int i = 0; i < n && taped < MOST_TAPE; i++) {
                tape[taped] = (int) (left & 255L);
                taped++;
                left = left >>> 8;
            }
            return taped;
        }

        void takeSteps(int use, int[] from, int size) {
            if (isUse(use)) {
                System.arraycopy(from, 0, steps[use], 0, MOST_TAPE);
                stepped[use] = size;
            }
        }

        boolean forget(int use) {
            boolean was = isUse(use) && stepped[use] > 0;
            if (was) {
                stepped[use] = 0;
            }
            return was;
        }

        int give(int use, int a, int b, int c) {
            if (!isUse(use)) {
                return 0;
            }
            int value = stepped[use] == 0 ? a : workOut(steps[use], stepped[use], a, b, c);
            return use == HARM_USE ? held(value, 0, 999) : held(value, 1, 99);
        }

        private int workOut(int[] list, int size, int a, int b, int c) {
            int top = -1;
            for (int i = 0; i < size && i < list.length; i++) {
                int step = list[i];
                if (step >= 0) {
                    top = Math.min(top + 1, stack.length - 1);
                    stack[top] = step < NAME_STEP ? step : named(step - NAME_STEP, a, b, c);
                } else if (step == -'!') {
                    if (top >= 0) {
                        stack[top] = stack[top] == 0 ? 1 : 0;
                    }
                } else if (top >= 1) {
                    top--;
                    stack[top] = joined(-step, stack[top], stack[top + 1]);
                }
            }
            return top >= 0 ? stack[top] : 0;
        }

        private static int named(int name, int a, int b, int c) {
            if (name == 0) {
                return a;
            }
            return name == 1 ? b : c;
        }

        private static int joined(int sign, int left, int right) {
            switch (sign) {
                case '|': return left != 0 || right != 0 ? 1 : 0;
                case '&': return left != 0 && right != 0 ? 1 : 0;
                case '<': return left < right ? 1 : 0;
                case '=': return left == right ? 1 : 0;
                case '>': return left > right ? 1 : 0;
                case '+': return left + right;
                case '-': return left - right;
                case '*': return left * right;
                case '/': return right == 0 ? 0 : left / right;
                default: return right == 0 ? 0 : left % right;
            }
        }
    }

    /** Reads a TEXT: writes its steps (numbers, NAMES, less the sign of what joins), or finds the FAULT. */
    private static final class Reader {
        private static final int COMPARING = 2;
        private static final int LEVELS = 5;
        private static final int MOST_OPEN = 5;
        private static final int MOST_DIGITS = 4;

        final int[] steps;
        int stepped;
        private final int[] bytes;
        private int size;
        private int at;
        private int names;

        Reader() {
            steps = new int[MOST_TAPE];
            bytes = new int[MOST_TAPE];
        }

        /** The FAULT, or -1 if there is none. */
        int faultOf(int[] tape, int taped, int use) {
            System.arraycopy(tape, 0, bytes, 0, MOST_TAPE);
            size = held(taped, 0, MOST_TAPE);
            at = 0;
            stepped = 0;
            names = use * NAMES_EACH;
            return reads(0, 0) && at == size ? -1 : at;
        }

        private int sign() {
            return at >= 0 && at < size && at < bytes.length ? bytes[at] : -1;
        }

        private void write(int step) {
            if (stepped >= 0 && stepped < steps.length) {
                steps[stepped] = step;
                stepped++;
            }
        }

        /** T, A, B, S, P are levels 0 to 4; open tells how many of ! and ( stand around it. */
        private boolean reads(int level, int open) {
            if (level >= LEVELS) {
                return readsSmallest(open);
            }
            if (!reads(level + 1, open)) {
                return false;
            }
            int most = level == COMPARING ? 1 : MOST_TAPE;
            for (int i = 0; i < most && joins(level, sign()); i++) {
                int sign = sign();
                at++;
                if (!reads(level + 1, open)) {
                    return false;
                }
                write(-sign);
            }
            return true;
        }

        private static boolean joins(int level, int sign) {
            switch (level) {
                case 0: return sign == '|';
                case 1: return sign == '&';
                case COMPARING: return sign == '<' || sign == '=' || sign == '>';
                case 3: return sign == '+' || sign == '-';
                default: return sign == '*' || sign == '/' || sign == '%';
            }
        }

        private boolean readsSmallest(int open) {
            int sign = sign();
            if (isDigit(sign)) {
                readNumber();
                return true;
            }
            if (sign == '!' || sign == '(') {
                return open < MOST_OPEN && readsOpened(sign, open + 1);
            }
            return readsName(sign);
        }

        private boolean readsOpened(int sign, int open) {
            at++;
            if (sign == '!') {
                if (!readsSmallest(open)) {
                    return false;
                }
                write(-'!');
                return true;
            }
            if (!reads(0, open) || sign() != ')') {
                return false;
            }
            at++;
            return true;
        }

        private boolean readsName(int sign) {
            for (int i = 0; i < NAMES_EACH; i++) {
                int k = names + i;
                if (k >= 0 && k < NAMES.length && NAMES[k] == sign) {
                    at++;
                    write(Laws.NAME_STEP + i);
                    return true;
                }
            }
            return false;
        }

        private void readNumber() {
            int value = 0;
            for (int i = 0; i < MOST_DIGITS && isDigit(sign()); i++) {
                value = value * 10 + (sign() - '0');
                at++;
            }
            write(value);
        }

        private static boolean isDigit(int sign) {
            return sign >= '0' && sign <= '9';
        }
    }

    /** What is only thought: LEAST, FEWEST, SEARCH and ODDS of a street, with rows to think on. */
    private static final class Thoughts {
        private static final int MOST_RISING = 120;
        private static final int TOO_MUCH = 1000000;

        int looked;
        private final int[][] sums;
        private final int[][] lasts;
        private final int[] rising;
        private final int[] lengths;

        Thoughts() {
            sums = new int[MOST_HOUSES][MOST_RISING + 1];
            lasts = new int[MOST_HOUSES][MOST_RISING + 1];
            rising = new int[MOST_HOUSES];
            lengths = new int[MOST_HOUSES];
        }

        /** How much LEAST is; risingOf tells its numbers then. */
        int leastRising(Street street) {
            int most = Math.min(street.houses, MOST_HOUSES);
            for (int place = 0; place < most; place++) {
                sumUpTo(street, place);
            }
            int limit = MOST_RISING;
            for (int place = most - 1; place >= 0; place--) {
                rising[place] = limit >= 0 ? lasts[place][limit] : 0;
                limit = rising[place] - 1;
            }
            return most > 0 ? sums[most - 1][MOST_RISING] : 0;
        }

        int risingOf(int place) {
            return place >= 0 && place < MOST_HOUSES ? rising[place] : 0;
        }

        /**
         * For each limit: the least HARM to HOUSES up to this place whose numbers rise and end at the
         * limit at most, and the least number that the last of them has then.
         */
        private void sumUpTo(Street street, int place) {
            if (place < 0 || place >= MOST_HOUSES) {
                return;
            }
            int h = street.houseAt(place);
            int best = TOO_MUCH;
            int last = 0;
            sums[place][0] = best;
            lasts[place][0] = last;
            for (int number = 1; number <= MOST_RISING; number++) {
                int ahead = place > 0 ? sums[place - 1][number - 1] : 0;
                int sum = ahead + street.harmTo(h, number);
                if (ahead < TOO_MUCH && sum < best) {
                    best = sum;
                    last = number;
                }
                sums[place][number] = best;
                lasts[place][number] = last;
            }
        }

        /** How many HOUSES can stay at the most, so that their PLATES rise. */
        int longestRising(Street street) {
            int longest = 0;
            for (int place = 0; place < MOST_HOUSES && place < street.houses; place++) {
                int length = 1;
                for (int ahead = 0; ahead < place; ahead++) {
                    if (street.plateAt(ahead) < street.plateAt(place)) {
                        length = Math.max(length, lengths[ahead] + 1);
                    }
                }
                lengths[place] = length;
                longest = Math.max(longest, length);
            }
            return longest;
        }

        /** SEARCH: the PLACE, or -1; looked tells how many were looked at. */
        int placeFound(Street street, int number) {
            int first = 0;
            int last = street.houses - 1;
            looked = 0;
            for (int turn = 0; turn < MOST_HOUSES && first <= last; turn++) {
                int middle = (first + last) / 2;
                int plate = street.plateAt(middle);
                looked++;
                if (plate == number) {
                    return middle;
                }
                if (plate < number) {
                    first = middle + 1;
                } else {
                    last = middle - 1;
                }
            }
            return -1;
        }

        /** How many HOUSES a SEARCH of their PLATE finds: of like PLATES it finds one at the most. */
        int housesFound(Street street) {
            int found = 0;
            for (int place = 0; place < street.houses; place++) {
                if (placeFound(street, street.plateAt(place)) == place) {
                    found++;
                }
            }
            return found;
        }

        static int commonDivisor(int a, int b) {
            for (int by = b; by > 1; by--) {
                if (a % by == 0 && b % by == 0) {
                    return by;
                }
            }
            return 1;
        }
    }

    /** VOICES: which BODY speaks, what it answers, and THE TRACE. */
    private static final class Voices {
        static final int EACH = 4;
        private static final int RINGS = 0;
        private static final int ANSWERS = 1;
        private static final int WAITS = 2;
        private static final int PARTS = 3;
        private static final int MOST_TRACE = 30;
        private static final int DEEPEST = 40;
        /** A row for each KIND, by VOICES; 0 where the KIND has no BODY of its own. */
        private static final int[] BODIES = {
            10, 11, 12, 13,
            20, 0, 0, 21,
            0, 30, 0, 0,
            0, 0, 40, 0,
            50, 0, 51, 0,
            0, 60, 0, 0,
            70, 71, 0, 0,
        };

        boolean parted;
        int traced;
        private final int[] trace;
        private int kind;
        private int k;
        private int m;

        Voices() {
            trace = new int[MOST_TRACE];
        }

        /** What a HOUSE answers, unless parted is so then; THE TRACE ends with the BODY that parted. */
        int answerOf(int houseKind, int number, int extra, int voice, int x) {
            kind = houseKind;
            k = number;
            m = extra;
            parted = false;
            traced = 0;
            return speak(houseKind, voice, x, 0);
        }

        int bodyAt(int i) {
            return i >= 0 && i < MOST_TRACE ? trace[i] : 0;
        }

        private static int ownBody(int of, int voice) {
            int i = of * EACH + voice;
            return of >= 0 && voice >= 0 && voice < EACH && i < BODIES.length ? BODIES[i] : 0;
        }

        private int speak(int from, int voice, int x, int depth) {
            // PARTED is all that there is then: no BODY begins after it, whichever stands around it.
            if (parted || depth > DEEPEST) {
                return 0;
            }
            int speaker = from;
            for (int up = 0; up < KINDS && speaker > COTTAGE && ownBody(speaker, voice) == 0; up++) {
                speaker = kindAbove(speaker);
            }
            int number = ownBody(speaker, voice);
            begin(number);
            return work(number, x, depth + 1);
        }

        private void begin(int number) {
            if (traced >= 0 && traced < MOST_TRACE) {
                trace[traced] = number;
                traced++;
            }
        }

        private int own(int voice, int x, int depth) {
            return speak(kind, voice, x, depth);
        }

        private int above(int of, int voice, int x, int depth) {
            return speak(kindAbove(of), voice, x, depth);
        }

        private int work(int number, int x, int depth) {
            switch (number) {
                case 10: return x + k;
                case 11: return own(RINGS, x, depth) * 2;
                case 12: return own(ANSWERS, x, depth) - m;
                case 13: return partedBy(m - k, x);
                case 20: return above(VILLA, RINGS, x, depth) - 4;
                case 21: return above(VILLA, PARTS, x, depth) + own(ANSWERS, 1, depth);
                case 30: return 0 - above(SHOP, ANSWERS, x, depth);
                case 40: return above(CORNER, WAITS, x / 2, depth);
                case 50: return above(MANOR, RINGS, x, depth) * 3;
                case 51: return above(MANOR, WAITS, x, depth) ^ k;
                case 60: return above(KIOSK, ANSWERS, x + 1, depth);
                case 70: return 9;
                case 71: return above(FIELD, ANSWERS, x, depth) + m;
                default: return 0;
            }
        }

        private int partedBy(int by, int x) {
            parted = parted || by == 0;
            return quotient(x, by);
        }
    }

    /** SHEETS: rows of numbers; one of 0 bits is missing. */
    private static final class Sheets {
        static final int MOST = 4;
        static final int MOST_NUMBERS = 24;

        private final int[][] rows;
        private final int[] widths;
        private final int[] sizes;

        Sheets() {
            rows = new int[MOST][MOST_NUMBERS];
            widths = new int[MOST];
            sizes = new int[MOST];
        }

        int bits(int sheet) {
            return isSheet(sheet) ? widths[sheet] : 0;
        }

        boolean isMissing(int sheet) {
            return bits(sheet) == 0;
        }

        int size(int sheet) {
            return isSheet(sheet) ? sizes[sheet] : 0;
        }

        /** Whether n numbers from number i on stand in a SHEET. */
        boolean holds(int sheet, int i, int n) {
            // Not i + n, which wraps.
            return n >= 0 && i >= 0 && n <= size(sheet) && i <= size(sheet) - n;
        }

        int number(int sheet, int i) {
            return holds(sheet, i, 1) ? rows[sheet][i] : 0;
        }

        void renew(int sheet, int bits, int n) {
            if (!isSheet(sheet)) {
                return;
            }
            widths[sheet] = bits;
            sizes[sheet] = held(n, 0, MOST_NUMBERS);
            for (int i = 0; i < MOST_NUMBERS; i++) {
                rows[sheet][i] = 0;
            }
        }

        void write(int sheet, int i, int v) {
            if (holds(sheet, i, 1)) {
                rows[sheet][i] = lowest(v, widths[sheet]);
            }
        }

        void copy(int sheet, int i, int other, int j, int n) {
            if (holds(sheet, i, n) && holds(other, j, n) && isSheet(sheet) && isSheet(other)) {
                System.arraycopy(rows[sheet], i, rows[other], j, n);
            }
        }

        // As of an int, the highest of the lowest bits is the sign.
        private static int lowest(int v, int bits) {
            if (bits == 8) {
                return (byte) v;
            }
            return bits == 16 ? (short) v : v;
        }
    }
}
