import java.lang.reflect.Method;
import java.nio.file.Files;
import java.nio.file.Path;
import java.util.regex.Matcher;
import java.util.regex.Pattern;

/** What README.md shows: each call answers what stands behind it, and each ERROR in its table is so. */
public final class ReadmeTests extends Given {
    private static final Checks checks = new Checks("ReadmeTests");
    private static final Pattern CALL = Pattern.compile("(?m)^street\\.(\\w+)\\(([^)]*)\\);\\s*// (-?\\d+): ");
    private static final Pattern ERROR_ROW = Pattern.compile("(?m)^\\| (-\\d+) \\| (\\w+) \\|");

    public static void main(String[] args) throws Exception {
        String readme = Files.readString(Path.of("README.md"));
        calls(readme);
        errors(readme);
        checks.holds("for how many calls an object is used", readme.contains("at most 512 calls"));
        checks.holds("how to run its tests", readme.contains(".ci/run"));
        checks.end();
    }

    private static void calls(String readme) throws Exception {
        checks.holds("how an object is made", readme.contains("StreetNumbers street = new StreetNumbers();"));
        StreetNumbers street = new StreetNumbers();
        Matcher call = CALL.matcher(readme);
        int seen = 0;
        while (call.find()) {
            String[] given = call.group(2).isEmpty() ? new String[0] : call.group(2).split(", ");
            checks.due(call.group(), answer(street, call.group(1), given), Integer.parseInt(call.group(3)));
            seen++;
        }
        checks.due("calls that it shows", seen, (int) readme.lines().filter(line -> line.startsWith("street.")).count());
        checks.holds("it shows some", seen > 5);
    }

    private static int answer(StreetNumbers street, String name, String[] given) throws Exception {
        for (Method method : StreetNumbers.class.getMethods()) {
            if (method.getName().equals(name) && method.getParameterCount() == given.length) {
                Object[] values = new Object[given.length];
                for (int i = 0; i < given.length; i++) {
                    long value = Long.decode(given[i].replace("L", ""));
                    if (method.getParameterTypes()[i] == long.class) {
                        values[i] = value;
                    } else {
                        values[i] = (int) value;
                    }
                }
                return (int) method.invoke(street, values);
            }
        }
        throw new IllegalStateException("no call " + name + " of " + given.length);
    }

    private static void errors(String readme) {
        String[] names = {"BEYOND", "NONE", "STATE", "FULL", "KIND", "PARTED"};
        int[] answers = {BEYOND, NONE, STATE, FULL, KIND, PARTED};
        Matcher row = ERROR_ROW.matcher(readme);
        int k = 0;
        while (row.find() && k < names.length) {
            checks.due("ERROR " + names[k], Integer.parseInt(row.group(1)), answers[k]);
            checks.holds("its name: " + names[k], row.group(2).equals(names[k]));
            k++;
        }
        checks.due("ERRORS that it tells", k, names.length);
    }
}
