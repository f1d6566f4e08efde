import java.util.ArrayList;
import java.util.HashMap;
import java.util.List;
import java.util.Map;

/**
 * The document once more, written with other means than the program (objects for KINDS, texts read
 * anew each time, LEAST from the last PLACE back), so that a slip in the one is seen by the other.
 */
public final class Model {
    static final int LOW = -1000000000;

    /** An ERROR on its way out of an act. */
    private static final class Failing extends RuntimeException {
        private static final long serialVersionUID = 1L;
        final int k;

        Failing(int k) {
            super(null, null, false, false);
            this.k = k;
        }
    }

    private interface Act {
        int run();
    }

    private static class Cottage {
        int k;
        int m;
        int plate;
        List<Integer> trace;

        int kind() { return 0; }
        int minds(int n) { return Math.abs(n - plate); }
        int front(int year) { return 6 + m; }

        void begins(int body) { trace.add(body); }
        int rings(int x) { begins(10); return x + k; }
        int answers(int x) { begins(11); return rings(x) * 2; }
        int waits(int x) { begins(12); return answers(x) - m; }
        int parts(int x) {
            begins(13);
            need(m - k != 0, 6);
            return (int) ((long) x / (m - k));
        }
    }

    private static class Villa extends Cottage {
        @Override int kind() { return 1; }
        @Override int minds(int n) { return super.minds(n) + (n % 100 == 13 ? 50 : 0); }
        @Override int front(int year) { return super.front(year) * 2; }
        @Override int rings(int x) { begins(20); return super.rings(x) - 4; }
        @Override int parts(int x) { begins(21); return super.parts(x) + answers(1); }
    }

    private static class Shop extends Cottage {
        @Override int kind() { return 2; }
        @Override int minds(int n) { return n % 10 == 8 ? 0 : super.minds(n) / 2; }
        @Override int front(int year) { return super.front(year) - 2; }
        @Override int answers(int x) { begins(30); return 0 - super.answers(x); }
    }

    private static final class Corner extends Cottage {
        @Override int kind() { return 3; }
        @Override int minds(int n) { return super.minds(n) + (n % 2 == 1 ? m : 0); }
        @Override int waits(int x) { begins(40); return super.waits(x / 2); }
    }

    private static final class Manor extends Villa {
        @Override int kind() { return 4; }
        @Override int minds(int n) { return super.minds(n) * 3; }
        @Override int front(int year) { return super.front(year) + 10; }
        @Override int rings(int x) { begins(50); return super.rings(x) * 3; }
        @Override int waits(int x) { begins(51); return super.waits(x) ^ k; }
    }

    private static final class Kiosk extends Shop {
        @Override int kind() { return 5; }
        @Override int minds(int n) { return super.minds(n) + (n % 10 == 4 ? 20 : 0); }
        @Override int front(int year) { return super.front(year) / 2; }
        @Override int answers(int x) { begins(60); return super.answers(x + 1); }
    }

    private static final class Field extends Cottage {
        @Override int kind() { return 6; }
        @Override int minds(int n) { return 0; }
        @Override int front(int year) { return 20 + year % 5; }
        @Override int rings(int x) { begins(70); return 9; }
        @Override int answers(int x) { begins(71); return super.answers(x) + m; }
    }

    private static Cottage made(int km, int k, int plate) {
        Cottage[] all = {new Cottage(), new Villa(), new Shop(), new Corner(), new Manor(), new Kiosk(), new Field()};
        Cottage one = all[km / 10];
        one.m = km % 10;
        one.k = k;
        one.plate = plate;
        return one;
    }

    /** Works a TEXT out from its bytes, which have no FAULT. */
    private static final class Text {
        private final String tape;
        private final String names;
        private final int[] values;
        private int at;

        Text(String tape, String names, int... values) {
            this.tape = tape;
            this.names = names;
            this.values = values;
        }

        private boolean next(String signs) {
            return at < tape.length() && signs.indexOf(tape.charAt(at)) >= 0;
        }

        private int bit(boolean so) { return so ? 1 : 0; }

        int either() {
            int v = both();
            while (next("|")) {
                at++;
                int w = both();
                v = bit(v != 0 | w != 0);
            }
            return v;
        }

        private int both() {
            int v = compared();
            while (next("&")) {
                at++;
                int w = compared();
                v = bit(v != 0 & w != 0);
            }
            return v;
        }

        private int compared() {
            int v = sum();
            if (!next("<=>")) {
                return v;
            }
            char sign = tape.charAt(at++);
            int w = sum();
            return bit(sign == '<' ? v < w : sign == '>' ? v > w : v == w);
        }

        private int sum() {
            int v = product();
            while (next("+-")) {
                long sign = tape.charAt(at++) == '+' ? 1 : -1;
                v = (int) (v + sign * product());
            }
            return v;
        }

        private int product() {
            int v = smallest();
            while (next("*/%")) {
                char sign = tape.charAt(at++);
                long w = smallest();
                v = (int) (sign == '*' ? v * w : w == 0 ? 0 : sign == '/' ? v / w : v % w);
            }
            return v;
        }

        private int smallest() {
            if (next("!")) {
                at++;
                return bit(smallest() == 0);
            }
            if (next("(")) {
                at++;
                int v = either();
                at++;
                return v;
            }
            if (next(names)) {
                return values[names.indexOf(tape.charAt(at++))];
            }
            int from = at;
            while (next("0123456789")) {
                at++;
            }
            return Integer.parseInt(tape.substring(from, at));
        }
    }

    /** The FAULT, or -1: by what may come next, byte by byte, with a row of what stands open. */
    static int faultOf(String tape, String names) {
        StringBuilder open = new StringBuilder();
        // Whether each of the brackets (the first stands for the whole) has compared since its last & or |.
        List<Boolean> compared = new ArrayList<>(List.of(false));
        boolean operand = true;
        int digits = 0;
        for (int i = 0; i < tape.length(); i++) {
            char c = tape.charAt(i);
            int top = compared.size() - 1;
            if (operand) {
                if (c == '!' || c == '(') {
                    if (open.length() == 5) {
                        return i;
                    }
                    open.append(c);
                    if (c == '(') {
                        compared.add(false);
                    }
                    continue;
                }
                boolean digit = c >= '0' && c <= '9';
                if (!digit && names.indexOf(c) < 0) {
                    return i;
                }
                digits = digit ? 1 : 0;
                operand = false;
            } else if (c >= '0' && c <= '9' && digits > 0 && digits < 4) {
                digits++;
                continue;
            } else if (c == ')') {
                if (top == 0) {
                    return i;
                }
                open.setLength(open.lastIndexOf("("));
                compared.remove(top);
                digits = 0;
            } else if ("<=>".indexOf(c) >= 0) {
                if (compared.get(top)) {
                    return i;
                }
                compared.set(top, true);
                operand = true;
            } else if ("|&".indexOf(c) >= 0) {
                compared.set(top, false);
                operand = true;
            } else if ("+-*/%".indexOf(c) >= 0) {
                operand = true;
            } else {
                return i;
            }
            if (!operand) {
                // What a ! stands ahead of has ended.
                while (open.length() > 0 && open.charAt(open.length() - 1) == '!') {
                    open.setLength(open.length() - 1);
                }
            }
        }
        return operand || compared.size() > 1 ? tape.length() : -1;
    }

    /** All that an IMAGE keeps. */
    private static final class All {
        List<Cottage> houses = new ArrayList<>();
        List<Integer> places = new ArrayList<>();
        int year;
        int done;
        int z = 1;
        String tape = "";
        String[] texts = {null, null};
        List<Integer> waiting = new ArrayList<>();

        All copy() {
            All c = new All();
            for (Cottage one : houses) {
                c.houses.add(made(one.kind() * 10 + one.m, one.k, one.plate));
            }
            c.places.addAll(places);
            c.year = year;
            c.done = done;
            c.z = z;
            c.tape = tape;
            c.texts = texts.clone();
            c.waiting.addAll(waiting);
            return c;
        }
    }

    private All all = new All();
    private All image;
    private int images;
    private List<Integer> trace = new ArrayList<>();
    private final long[][] sheets = new long[4][];
    private final int[] bits = new int[4];
    private final Map<Integer, Integer> errors = new HashMap<>();

    private int act(Act act) {
        try {
            return act.run();
        } catch (Failing f) {
            errors.merge(f.k, 1, Integer::sum);
            return LOW - f.k;
        }
    }

    private static void need(boolean so, int k) {
        if (!so) {
            throw new Failing(k);
        }
    }

    private static void within(long v, long least, long most) {
        need(v >= least && v <= most, 1);
    }

    private Cottage house(int h) {
        within(h, 0, all.houses.size() - 1);
        return all.houses.get(h);
    }

    private Cottage at(int place) {
        return all.houses.get(all.places.get(place));
    }

    private int gives(int use, int a, int b, int c) {
        String text = all.texts[use];
        int v = text == null ? a : new Text(text, use == 0 ? "hyo" : "ybs", a, b, c).either();
        int least = use;
        int most = use == 0 ? 999 : 99;
        return v < least ? least : v > most ? most : v;
    }

    private int harmTo(Cottage one, int n) {
        return n == one.plate ? 0 : gives(0, one.minds(n), all.year % 7, one.plate);
    }

    private int yards(int place) {
        return gives(1, at(place).front(all.year), place, all.year % 7);
    }

    private int gets(Cottage one, int n) {
        int harm = harmTo(one, n);
        all.done = Math.min(99999, all.done + harm);
        one.plate = n;
        return harm;
    }

    private int together(int gap, boolean done) {
        int sum = 0;
        for (int p = 0; p < all.places.size(); p++) {
            sum += done ? gets(at(p), (p + 1) * gap) : harmTo(at(p), (p + 1) * gap);
        }
        return sum;
    }

    private void comes(int km, int place, int number) {
        int h = all.houses.size();
        all.houses.add(made(km, h, number));
        all.places.add(place, h);
    }

    public int build(int km, int place, int number) {
        return act(() -> {
            within(km, 0, 69);
            within(place, 0, all.houses.size());
            within(number, 1, 999);
            need(all.houses.size() < 10, 4);
            comes(km, place, number);
            return all.houses.size() - 1;
        });
    }

    public int houseIs(int h, int what) {
        return act(() -> {
            Cottage one = house(h);
            within(what, 0, 5);
            int place = all.places.indexOf(h);
            int ahead = 0;
            for (int p = 0; p < place; p++) {
                ahead += yards(p);
            }
            return new int[] {one.kind(), one.m, one.plate, place, yards(place), ahead}[what];
        });
    }

    public int standing(int place) {
        return act(() -> {
            within(place, 0, all.houses.size() - 1);
            return all.places.get(place);
        });
    }

    public int become(int h, int km) {
        return act(() -> {
            Cottage one = house(h);
            within(km, 0, 69);
            all.houses.set(h, made(km, h, one.plate));
            return one.kind();
        });
    }

    public int as(int h, int kind) {
        return act(() -> {
            Cottage one = house(h);
            within(kind, 0, 6);
            need(made(kind * 10, 0, 1).getClass().isInstance(one), 5);
            return one.m;
        });
    }

    public int harm(int h, int number) {
        return act(() -> {
            Cottage one = house(h);
            within(number, 1, 999);
            return harmTo(one, number);
        });
    }

    public int renames(int h, int number) {
        return act(() -> {
            Cottage one = house(h);
            within(number, 1, 999);
            return gets(one, number);
        });
    }

    public int year(int v) {
        return act(() -> {
            within(v, 0, 9999);
            int was = all.year;
            all.year = v;
            return was;
        });
    }

    public int feed(long word, int n) {
        return act(() -> {
            within(n, 1, 8);
            need(all.tape.length() + n <= 60, 4);
            for (int i = 0; i < n; i++) {
                all.tape += (char) (word >> 8 * i & 0xff);
            }
            return all.tape.length();
        });
    }

    public int text(int use) {
        return act(() -> {
            within(use, 0, 1);
            String tape = all.tape;
            all.tape = "";
            int fault = faultOf(tape, use == 0 ? "hyo" : "ybs");
            if (fault >= 0) {
                return -10 - fault;
            }
            all.texts[use] = tape;
            return 1;
        });
    }

    public int untell(int use) {
        return act(() -> {
            within(use, 0, 1);
            int was = all.texts[use] == null ? 0 : 1;
            all.texts[use] = null;
            return was;
        });
    }

    public int law(int use, int a, int b, int c) {
        return act(() -> {
            within(use, 0, 1);
            return gives(use, a, b, c);
        });
    }

    public int renumber(int gap) {
        return act(() -> {
            within(gap, 1, 50);
            return together(gap, true);
        });
    }

    public int would(int gap) {
        return act(() -> {
            within(gap, 1, 50);
            return together(gap, false);
        });
    }

    public int gap(int what) {
        return act(() -> {
            within(what, 0, 1);
            long best = Long.MAX_VALUE;
            for (int g = 1; g <= 50; g++) {
                best = Math.min(best, together(g, false) * 1000L + g);
            }
            return (int) (what == 0 ? best % 1000 : best / 1000);
        });
    }

    /** The least HARM to the first so many HOUSES with rising numbers below a limit; -1 if they don't go. */
    private int leastBelow(int houses, int limit, Map<Integer, Integer> known) {
        if (houses == 0) {
            return 0;
        }
        if (limit <= houses) {
            return -1;
        }
        int key = houses * 200 + limit;
        if (!known.containsKey(key)) {
            int best = leastBelow(houses, limit - 1, known);
            int ahead = leastBelow(houses - 1, limit - 1, known);
            int with = ahead + harmTo(at(houses - 1), limit - 1);
            known.put(key, best < 0 ? with : Math.min(best, with));
        }
        return known.get(key);
    }

    public int least(int what) {
        return act(() -> {
            within(what, -1, 9);
            need(what < all.houses.size(), 2);
            Map<Integer, Integer> known = new HashMap<>();
            int left = leastBelow(all.houses.size(), 121, known);
            if (what < 0) {
                return left;
            }
            int found = 0;
            for (int p = all.houses.size() - 1; p >= all.places.indexOf(what); p--) {
                for (int n = p + 1; n <= 120; n++) {
                    int harm = harmTo(at(p), n);
                    if (leastBelow(p, n, known) >= 0 && leastBelow(p, n, known) + harm == left) {
                        left -= harm;
                        found = n;
                        break;
                    }
                }
            }
            return found;
        });
    }

    private int numberBetween(int place) {
        int n = all.houses.size();
        int low = place == 0 ? 0 : at(place - 1).plate;
        int high = place == n ? 1000 : at(place).plate;
        if (high < low + 2) {
            return -1;
        }
        return place == n ? low + 1 : low + (high - low) / 2;
    }

    public int between(int place) {
        return act(() -> {
            within(place, 0, all.houses.size());
            need(numberBetween(place) > 0, 2);
            return numberBetween(place);
        });
    }

    private boolean rises(int without) {
        int last = 0;
        for (int p = 0; p < all.houses.size(); p++) {
            if ((without >> p & 1) == 0) {
                if (at(p).plate <= last) {
                    return false;
                }
                last = at(p).plate;
            }
        }
        return true;
    }

    public int fewest() {
        int best = 99;
        for (int without = 0; without < 1 << all.houses.size(); without++) {
            if (Integer.bitCount(without) < best && rises(without)) {
                best = Integer.bitCount(without);
            }
        }
        return best;
    }

    public int order() {
        return rises(0) ? 1 : 0;
    }

    /** 100 times how many were looked at, and the PLACE (99: it isn't found). */
    private int halving(int number, int first, int last) {
        if (first > last) {
            return 99;
        }
        int middle = (first + last) / 2;
        int plate = at(middle).plate;
        if (plate == number) {
            return 100 + middle;
        }
        return 100 + (plate < number ? halving(number, middle + 1, last) : halving(number, first, middle - 1));
    }

    public int search(int number, int what) {
        return act(() -> {
            within(number, 1, 999);
            within(what, 0, 1);
            int found = halving(number, 0, all.houses.size() - 1);
            need(what == 1 || found % 100 != 99, 2);
            return what == 1 ? found / 100 : all.places.get(found % 100);
        });
    }

    public int odds(int part) {
        return act(() -> {
            within(part, 0, 1);
            int n = all.houses.size();
            need(n > 0, 3);
            int found = 0;
            for (int p = 0; p < n; p++) {
                found += halving(at(p).plate, 0, n - 1) % 100 == p ? 1 : 0;
            }
            int common = java.math.BigInteger.valueOf(found).gcd(java.math.BigInteger.valueOf(n)).intValue();
            return (part == 0 ? found : n) / common;
        });
    }

    private long[] row(int sheet) {
        within(sheet, 0, 3);
        need(sheets[sheet] != null, 2);
        return sheets[sheet];
    }

    public int fits(int sheet, int what) {
        return act(() -> {
            within(sheet, 0, 3);
            within(what, 0, 1);
            long[] row = row(sheet);
            List<Integer> gaps = new ArrayList<>();
            for (int g = 1; g <= 50; g++) {
                boolean so = row.length <= all.houses.size();
                for (int p = 0; so && p < row.length; p++) {
                    so = row[p] == harmTo(at(p), g * (p + 1));
                }
                if (so) {
                    gaps.add(g);
                }
            }
            need(what == 0 || !gaps.isEmpty(), 2);
            return what == 0 ? gaps.size() : gaps.get(0);
        });
    }

    private int draw() {
        all.z = (int) (all.z * 1103515245L + 12345L);
        return (int) ((all.z & 0xffffffffL) / 256);
    }

    public int loose(int n) {
        return act(() -> {
            within(n, 1, 30);
            need(all.year + n <= 9999, 3);
            int ahead = all.houses.size();
            for (int i = 0; i < n; i++) {
                int place = draw() % (1 + all.houses.size());
                int kind = draw() % 7;
                if (all.houses.size() < 10) {
                    if (numberBetween(place) < 0) {
                        together(10, true);
                    }
                    comes(kind * 10, place, numberBetween(place));
                }
                all.year++;
            }
            return all.houses.size() - ahead;
        });
    }

    public int seed(int v) {
        int was = all.z;
        all.z = v;
        return was;
    }

    public int voice(int h, int voice, int x) {
        return act(() -> {
            Cottage one = house(h);
            within(voice, 0, 3);
            trace = new ArrayList<>();
            one.trace = trace;
            switch (voice) {
                case 0: return one.rings(x);
                case 1: return one.answers(x);
                case 2: return one.waits(x);
                default: return one.parts(x);
            }
        });
    }

    public int body(int i) {
        return act(() -> {
            need(i >= 0 && i < Math.min(30, trace.size()), 2);
            return trace.get(i);
        });
    }

    public int sheet(int sheet, int width, int n) {
        return act(() -> {
            within(sheet, 0, 3);
            need(width == 0 || width == 8 || width == 16 || width == 32, 1);
            need(width == 0 || n >= 0, 3);
            need(width == 0 || n <= 24, 1);
            bits[sheet] = width;
            sheets[sheet] = width == 0 ? null : new long[n];
            return 1;
        });
    }

    public int put(int sheet, int i, int v) {
        return act(() -> {
            long[] row = row(sheet);
            within(i, 0, row.length - 1);
            long all = 1L << bits[sheet];
            long low = Math.floorMod((long) v, all);
            row[i] = low < all / 2 ? low : low - all;
            return 1;
        });
    }

    public int move(int sheet, int i, int other, int j, int n) {
        return act(() -> {
            within(sheet, 0, 3);
            within(other, 0, 3);
            long[] from = row(sheet).clone();
            long[] to = row(other);
            need(bits[sheet] == bits[other], 5);
            need(n >= 0 && i >= 0 && j >= 0, 1);
            within((long) i + n, 0, from.length);
            within((long) j + n, 0, to.length);
            for (int q = 0; q < n; q++) {
                to[j + q] = from[i + q];
            }
            return n;
        });
    }

    public int plates(int sheet) {
        return act(() -> {
            int h = 0;
            for (long v : row(sheet)) {
                if (v < 1 || v > 999 || h >= all.houses.size()) {
                    break;
                }
                all.houses.get(h).plate = (int) v;
                h++;
            }
            return h;
        });
    }

    public int judge(int sheet) {
        return act(() -> {
            int p = 0;
            int ahead = 0;
            for (long v : row(sheet)) {
                if (p >= all.houses.size() || v != ahead) {
                    break;
                }
                ahead += yards(p);
                p++;
            }
            return p;
        });
    }

    public int image() {
        image = all.copy();
        return ++images;
    }

    public int restore() {
        return act(() -> {
            need(image != null, 2);
            all = image.copy();
            return all.year;
        });
    }

    public int tell(int v) {
        return act(() -> {
            need(all.waiting.size() < 24, 4);
            all.waiting.add(v);
            return all.waiting.size();
        });
    }

    public int check() {
        List<Integer> told = all.waiting;
        all.waiting = new ArrayList<>();
        for (int i = 0; i < told.size(); i++) {
            if (i >= all.houses.size() || all.houses.get(i).plate != told.get(i)) {
                return i + 1;
            }
        }
        return 0;
    }

    public int count(int what) {
        return act(() -> {
            within(what, 0, 6);
            return new int[] {all.houses.size(), all.year, all.done, all.tape.length(), all.waiting.size(),
                Math.min(30, trace.size()), all.z}[what];
        });
    }

    public int told(int k) {
        return act(() -> {
            within(k, 1, 6);
            return errors.getOrDefault(k, 0);
        });
    }
}
