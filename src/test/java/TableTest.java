import java.io.IOException;
import java.lang.reflect.Method;
import java.nio.file.Files;
import java.nio.file.Path;
import java.util.Arrays;
import java.util.regex.Matcher;
import java.util.regex.Pattern;

/** The tests that BOUNDS.md names are there, and each promise is named. */
public final class TableTest {
    private static final Checks CHECKS = new Checks("TableTest");

    public static void main(String[] args) throws IOException {
        String table = Files.readString(Path.of("src/test/BOUNDS.md"));
        Matcher named = Pattern.compile("\\b([A-Z][a-z]+Test)\\.([a-zA-Z]+)").matcher(table);
        while (named.find()) {
            CHECKS.due(named.group() + " is there", isThere(named.group(1), named.group(2)), true);
        }
        boolean[] promised = new boolean[43];
        String promises = table.substring(Math.max(0, table.indexOf("## Promises")));
        Matcher run = Pattern.compile("(?m)^\\| (\\d+) to (\\d+) ").matcher(promises);
        while (run.find()) {
            Arrays.fill(promised, Integer.parseInt(run.group(1)), Integer.parseInt(run.group(2)) + 1, true);
        }
        Matcher row = Pattern.compile("(?m)^\\| (\\d+(?:, \\d+)*) ").matcher(promises);
        while (row.find()) {
            for (String number : row.group(1).split(", ")) {
                promised[Integer.parseInt(number)] = true;
            }
        }
        for (int n = 1; n <= 42; n++) {
            CHECKS.due("promise " + n + " is named", promised[n], true);
        }
        CHECKS.finish();
    }

    private static boolean isThere(String test, String method) {
        try {
            for (Method m : Class.forName(test).getDeclaredMethods()) {
                if (m.getName().equals(method)) {
                    return true;
                }
            }
        } catch (ClassNotFoundException none) {
            return false;
        }
        return false;
    }
}
