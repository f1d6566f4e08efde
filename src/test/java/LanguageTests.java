import java.lang.reflect.Constructor;
import java.lang.reflect.Field;
import java.lang.reflect.Method;
import java.lang.reflect.Modifier;
import java.nio.file.Files;
import java.nio.file.Path;
import java.util.ArrayList;
import java.util.Arrays;
import java.util.List;
import java.util.Set;
import java.util.TreeSet;
import java.util.regex.Matcher;
import java.util.regex.Pattern;

/** The rules of LANGUAGE.md that can be seen from outside, and the document's face. */
public final class LanguageTests {
    private static final Checks checks = new Checks("LanguageTests");
    private static final String FACE = "build(int,int,int) houseIs(int,int) standing(int) become(int,int) as(int,int)"
        + " harm(int,int) renames(int,int) year(int) feed(long,int) text(int) untell(int) law(int,int,int,int)"
        + " renumber(int) would(int) gap(int) least(int) between(int) fewest() search(int,int) odds(int) order()"
        + " fits(int,int) loose(int) seed(int) voice(int,int,int) body(int) sheet(int,int,int) put(int,int,int)"
        + " move(int,int,int,int,int) plates(int) judge(int) image() restore() tell(int) check() count(int) told(int)";

    public static void main(String[] args) throws Exception {
        face();
        for (Class<?> c : StreetNumbers.class.getDeclaredClasses()) {
            inner(c);
        }
        checks.holds("at most twelve classes", StreetNumbers.class.getDeclaredClasses().length < 12);
        source(Files.readString(Path.of(args[0])));
        room();
        checks.end();
    }

    private static void face() {
        Class<?> c = StreetNumbers.class;
        checks.holds("public and final", Modifier.isPublic(c.getModifiers()) && Modifier.isFinal(c.getModifiers()));
        Set<String> names = new TreeSet<>();
        Set<String> face = new TreeSet<>();
        for (Method m : c.getDeclaredMethods()) {
            if (Modifier.isPublic(m.getModifiers())) {
                List<String> types = new ArrayList<>();
                for (Class<?> type : m.getParameterTypes()) {
                    types.add(type.getName());
                }
                face.add(m.getName() + "(" + String.join(",", types) + ")");
                names.add(m.getName());
                checks.holds(m + " answers an int", m.getReturnType() == int.class);
                checks.holds(m + " is no static one", !Modifier.isStatic(m.getModifiers()));
            } else {
                checks.holds(m + " is private", Modifier.isPrivate(m.getModifiers()));
            }
        }
        checks.holds("the face: " + face, face.equals(new TreeSet<>(Arrays.asList(FACE.split(" ")))));
        Constructor<?>[] made = c.getDeclaredConstructors();
        checks.holds("one public constructor", made.length == 1 && Modifier.isPublic(made[0].getModifiers()));
        for (Field f : c.getDeclaredFields()) {
            checks.holds(f + " is private", Modifier.isPrivate(f.getModifiers()));
        }
        privateNames(c, names);
        for (Class<?> in : c.getDeclaredClasses()) {
            privateNames(in, names);
        }
        fields(c);
    }

    private static void privateNames(Class<?> c, Set<String> face) {
        for (Method m : c.getDeclaredMethods()) {
            checks.holds(m + " bears no name of the face",
                Modifier.isPublic(m.getModifiers()) || !face.contains(m.getName()));
            checks.holds(m + " takes at most seven", m.getParameterCount() <= 7);
        }
    }

    private static void inner(Class<?> c) {
        int mods = c.getModifiers();
        checks.holds(c + " is static", Modifier.isStatic(mods));
        checks.holds(c + " is not seen", !Modifier.isPublic(mods) && !Modifier.isProtected(mods));
        fields(c);
    }

    private static void fields(Class<?> c) {
        int own = 0;
        for (Field f : c.getDeclaredFields()) {
            if (Modifier.isStatic(f.getModifiers())) {
                checks.holds(f + " is final", Modifier.isFinal(f.getModifiers()));
            } else {
                own++;
            }
        }
        checks.holds(c + " has at most twenty fields", own <= 20);
    }

    private static void source(String source) {
        String code = source.replaceAll("(?s)/\\*.*?\\*/", " ").replaceAll("//[^\n]*", " ")
            .replaceAll("'(\\\\.|[^'])'", "0").replaceAll("\"[^\"]*\"", "0");
        for (String word : new String[] {"throw", "throws", "try", "catch", "finally", "synchronized", "assert", "package",
                "import", "instanceof", "Object", "equals", "hashCode", "toString", "volatile", "native", "System\\.(?!arraycopy)",
                "Random", "Thread", "\\w+Exact", "String", "Integer", "strictfp", "transient", "goto"}) {
            checks.holds("no " + word, !Pattern.compile("\\b" + word + (word.startsWith("System") ? "" : "\\b")).matcher(code).find());
        }
        checks.holds("no lambda", !code.contains("->"));
        checks.holds("no method reference", !code.contains("::"));
        checks.holds("no static block", !Pattern.compile("static\\s*\\{").matcher(code).find());
        checks.holds("signs 1 to 127", source.chars().allMatch(c -> c > 0 && c < 128));
        methodLengths(code);
    }

    private static void methodLengths(String code) {
        Matcher head = Pattern.compile("(?m)^( +)[^\n=;]*\\([^\n;]*\\) \\{$").matcher(code);
        int seen = 0;
        while (head.find()) {
            int end = code.indexOf("\n" + head.group(1) + "}", head.end());
            long lines = code.substring(head.start(), end).lines().count();
            checks.holds("short: " + head.group().trim(), lines <= 60);
            seen++;
        }
        checks.holds("methods were seen", seen > 60);
    }

    /** What the dearest calls make, by the machine's own count: next to nothing, as rows are used again. */
    private static void room() {
        com.sun.management.ThreadMXBean bean =
            (com.sun.management.ThreadMXBean) java.lang.management.ManagementFactory.getThreadMXBean();
        StreetNumbers x = new StreetNumbers();
        long id = Thread.currentThread().getId();
        long spent = 0;
        for (int i = 0; i < 502; i++) {
            long before = bean.getThreadAllocatedBytes(id);
            x.loose(1);
            x.least(-1);
            x.gap(0);
            x.feed(0x3231302b6832312aL, 8);
            x.text(0);
            x.voice(0, 2, 3);
            x.image();
            x.restore();
            x.sheet(0, 32, 24);
            x.fits(0, 0);
            spent += bean.getThreadAllocatedBytes(id) - before;
        }
        checks.holds("room, spent " + spent, spent < 1 << 20);
    }
}
