import java.lang.reflect.Method;
import java.util.ArrayList;
import java.util.Arrays;
import java.util.Comparator;
import java.util.List;

/** Long runs of calls, fair and wild: the program and the model answer alike, and neither ever throws. */
public final class ModelRuns {
    private static final Checks checks = new Checks("ModelRuns");
    private static final int[] EDGES = {
        Integer.MIN_VALUE, Integer.MIN_VALUE + 1, -1000000001, -65536, -256, -11, -2, -1, 0, 1, 2, 3, 4, 5, 6, 7, 8,
        9, 10, 11, 12, 13, 16, 23, 24, 25, 30, 31, 32, 50, 51, 60, 69, 70, 99, 100, 119, 120, 121, 127, 128, 200,
        255, 256, 300, 998, 999, 1000, 9970, 9999, 10000, 65536 + 40, 1 << 30, Integer.MAX_VALUE - 1,
        Integer.MAX_VALUE};
    private static final String SIGNS = "|&<=>+-*/%!()0123456789hyobs";
    private static final List<Method> ours = faceOf(StreetNumbers.class);
    private static final List<Method> models = faceOf(Model.class);
    private static long z = 20261118;

    private static List<Method> faceOf(Class<?> of) {
        List<Method> face = new ArrayList<>();
        for (Method m : of.getDeclaredMethods()) {
            if (java.lang.reflect.Modifier.isPublic(m.getModifiers())) {
                face.add(m);
            }
        }
        face.sort(Comparator.comparing(Method::getName));
        return face;
    }

    // The runs are the same each time: no library's random source.
    private static int below(int n) {
        z = z * 6364136223846793005L + 1442695040888963407L;
        return (int) ((z >>> 33) % n);
    }

    private static int from(int least, int most) {
        return least + below(most - least + 1);
    }

    public static void main(String[] args) throws Exception {
        checks.due("acts", ours.size(), 37);
        checks.due("acts of the model", models.size(), 37);
        for (int run = 0; run < 1500 && checks.failures() < 5; run++) {
            run(run, run % 3);
        }
        faults();
        checks.end();
    }

    /** Wildness 0: fair arguments; 1: an edge now and then; 2: edges mostly. */
    private static void run(int number, int wildness) throws Exception {
        int failures = checks.failures();
        StreetNumbers x = new StreetNumbers();
        Model y = new Model();
        StringBuilder calls = new StringBuilder();
        int left = 512;
        for (int i = below(6); i > 0; i--, left--) {
            both(x, y, "build", calls, from(0, 69), 0, from(1, 130));
        }
        while (left > 0 && checks.failures() == failures) {
            if (below(12) == 0 && left > 10) {
                left -= feedText(x, y, calls);
            } else if (below(40) == 0 && left > 26) {
                left -= feedSheet(x, y, calls);
            } else {
                Method m = ours.get(below(ours.size()));
                Object[] fair = fair(m.getName(), x);
                for (int i = 0; i < fair.length; i++) {
                    if (wildness == 1 && below(16) == 0 || wildness == 2 && below(3) != 0) {
                        fair[i] = EDGES[below(EDGES.length)];
                    }
                }
                both(x, y, m.getName(), calls, fair);
                left--;
            }
        }
        if (checks.failures() > failures) {
            System.out.println("run " + number + ":" + calls);
        }
    }

    private static int find(List<Method> face, String name) {
        for (int i = 0; i < face.size(); i++) {
            if (face.get(i).getName().equals(name)) {
                return i;
            }
        }
        throw new IllegalArgumentException(name);
    }

    private static int both(StreetNumbers x, Model y, String name, StringBuilder calls, Object... args)
            throws Exception {
        int i = find(ours, name);
        Object[] real = args.clone();
        if (name.equals("feed")) {
            real[0] = ((Number) args[0]).longValue();
        }
        String call = name + Arrays.toString(real);
        calls.append(' ').append(call);
        int got = (Integer) ours.get(i).invoke(x, real);
        int want = (Integer) models.get(i).invoke(y, real);
        checks.due(call, got, want);
        return got;
    }

    private static int house(StreetNumbers x) {
        return from(0, Math.max(0, x.count(0) - 1));
    }

    private static Object[] fair(String name, StreetNumbers x) {
        int n = x.count(0);
        switch (name) {
            case "build": return new Object[] {from(0, 69), from(0, n), below(2) == 0 ? from(1, 40) : from(1, 999)};
            case "houseIs": return new Object[] {house(x), from(0, 5)};
            case "standing": return new Object[] {house(x)};
            case "become": return new Object[] {house(x), from(0, 69)};
            case "as": return new Object[] {house(x), from(0, 6)};
            case "harm":
            case "renames": return new Object[] {house(x), below(2) == 0 ? from(1, 120) : from(1, 999)};
            case "year": return new Object[] {below(9) == 0 ? from(9950, 9999) : from(0, 99)};
            case "feed": return new Object[] {(long) from(33, 126), 1};
            case "text":
            case "untell": return new Object[] {from(0, 1)};
            case "law": return new Object[] {from(0, 1), from(-20, 1000), from(-3, 12), from(-3, 12)};
            case "renumber":
            case "would": return new Object[] {from(1, 50)};
            case "gap":
            case "odds": return new Object[] {from(0, 1)};
            case "least": return new Object[] {from(-1, 9)};
            case "between": return new Object[] {from(0, n)};
            case "search": return new Object[] {below(2) == 0 || n == 0 ? from(1, 130) : x.houseIs(house(x), 2) & 1023, from(0, 1)};
            case "fits": return new Object[] {from(0, 3), from(0, 1)};
            case "loose": return new Object[] {from(1, 3)};
            case "seed":
            case "tell": return new Object[] {from(-9, 999)};
            case "voice": return new Object[] {house(x), from(0, 3), from(-99, 99)};
            case "body": return new Object[] {from(0, 6)};
            case "sheet": return new Object[] {from(0, 3), 8 * (1 << below(3)), from(0, 12)};
            case "put": return new Object[] {from(0, 3), from(0, 11), below(2) == 0 ? from(0, 300) : from(-999, 99999)};
            case "move": return new Object[] {from(0, 3), from(0, 4), from(0, 3), from(0, 4), from(0, 5)};
            case "plates":
            case "judge": return new Object[] {from(0, 3)};
            case "count": return new Object[] {from(0, 6)};
            case "told": return new Object[] {from(1, 6)};
            default: return new Object[0];
        }
    }

    /** A text by the grammar, sometimes with a byte amiss. */
    private static String anyText(String names) {
        StringBuilder text = new StringBuilder();
        writeText(text, 0, names);
        if (below(4) == 0) {
            int at = below(text.length() + 1);
            char sign = SIGNS.charAt(below(SIGNS.length()));
            if (below(2) == 0 || at == text.length()) {
                text.insert(at, sign);
            } else {
                text.setCharAt(at, sign);
            }
        }
        if (below(9) == 0) {
            text.setLength(below(text.length() + 1));
        }
        text.setLength(Math.min(60, text.length()));
        return text.toString();
    }

    private static void writeText(StringBuilder text, int level, String names) {
        String[] joins = {"|", "&", "<=>", "+-", "*/%"};
        if (level < 5) {
            writeText(text, level + 1, names);
            for (int i = 0; below(5) == 0 && i < (level == 2 ? 1 : 3); i++) {
                text.append(joins[level].charAt(below(joins[level].length())));
                writeText(text, level + 1, names);
            }
            return;
        }
        int which = text.length() > 40 ? 9 : below(12);
        if (which == 0) {
            text.append('!');
            writeText(text, 5, names);
        } else if (which < 3) {
            text.append('(');
            writeText(text, 0, names);
            text.append(')');
        } else if (which < 6) {
            text.append(below(2) == 0 ? below(10) : below(10000));
        } else {
            text.append(names.charAt(below(3)));
        }
    }

    private static int feedText(StreetNumbers x, Model y, StringBuilder calls) throws Exception {
        int use = below(2);
        String text = anyText(use == 0 ? "hyo" : "ybs");
        int spent = 1;
        for (int from = 0; from < text.length(); from += 8) {
            int to = Math.min(text.length(), from + 8);
            long word = below(2) == 0 ? -1 : 0;
            for (int i = to - 1; i >= from; i--) {
                word = word << 8 | text.charAt(i);
            }
            both(x, y, "feed", calls, word, to - from);
            spent++;
        }
        both(x, y, "text", calls, use);
        return spent;
    }

    /** A sheet that tells what is so, of harm or of yards, mostly. */
    private static int feedSheet(StreetNumbers x, Model y, StringBuilder calls) throws Exception {
        int n = x.count(0);
        int gap = from(1, 50);
        boolean ofHarm = below(2) == 0;
        int size = Math.max(0, Math.min(12, n + from(-2, 1)));
        int sheet = below(4);
        both(x, y, "sheet", calls, sheet, below(2) == 0 ? 16 : 32, size);
        for (int i = 0; i < size; i++) {
            int right = 0;
            if (i < n) {
                int h = x.standing(i);
                right = ofHarm ? x.harm(h, gap * (i + 1)) : x.houseIs(h, 5);
            }
            both(x, y, "put", calls, sheet, i, below(30) == 0 ? right + 1 : right);
        }
        both(x, y, ofHarm ? "fits" : "judge", calls, ofHarm ? new Object[] {sheet, 0} : new Object[] {sheet});
        both(x, y, ofHarm ? "fits" : "plates", calls, ofHarm ? new Object[] {sheet, 1} : new Object[] {sheet});
        return size + 3;
    }

    /** FAULTS of many texts: all short ones of few signs, and long ones by chance. */
    private static void faults() {
        String signs = "|<+!()1h";
        for (int length = 0; length <= 5; length++) {
            int all = 1 << 3 * length;
            for (int code = 0; code < all; code++) {
                StringBuilder text = new StringBuilder();
                for (int i = 0; i < length; i++) {
                    text.append(signs.charAt(code >> 3 * i & 7));
                }
                dueFault(text.toString());
            }
        }
        for (int i = 0; i < 20000; i++) {
            StringBuilder text = new StringBuilder();
            for (int k = below(60); k > 0; k--) {
                text.append("!(((((!!!h)))|&+1".charAt(below(17)));
            }
            dueFault(text.toString());
        }
    }

    private static void dueFault(String text) {
        StreetNumbers x = new StreetNumbers();
        for (int i = 0; i < text.length(); i++) {
            x.feed(text.charAt(i), 1);
        }
        int fault = Model.faultOf(text, "hyo");
        checks.due("fault of " + text, x.text(0), fault < 0 ? 1 : -10 - fault);
    }
}
