import java.io.IOException;
import java.lang.reflect.InvocationTargetException;
import java.lang.reflect.Method;
import java.nio.file.Files;
import java.nio.file.Path;
import java.util.Arrays;
import java.util.List;
import java.util.regex.Matcher;
import java.util.regex.Pattern;

/** The example of README.md, line by line on one object: each call answers what its comment says. */
public final class ReadmeTest {
    private static final Pattern CALL = Pattern.compile(" {4}x\\.(\\w+)\\(([-0-9, ]*)\\);\\s+// (-?\\d+)(:.*)?");
    private static final Pattern FED = Pattern.compile(" {4}for \\(char c : \"([^\"]+)\"\\.toCharArray\\(\\)\\) x\\.feed\\(c\\);");
    /** As the document parts them. */
    private static final List<String> GROUPS = List.of("children, swings", "turns in thought", "afternoons", "squeals", "in deed", "acts, shelves");

    private static int asked = 0;
    private static int wrong = 0;

    public static void main(String[] args) throws IOException, InvocationTargetException, IllegalAccessException {
        Path readme = Path.of(System.getProperty("project.root", "."), "README.md");
        List<String> lines = Files.readAllLines(readme);
        TwentyPushes x = new TwentyPushes();
        for (String line : lines) {
            if (line.startsWith("    x.") || line.startsWith("    for ")) {
                follow(x, line);
            }
        }
        for (String group : GROUPS) {
            if (lines.stream().noneMatch(line -> line.startsWith("    // " + group))) {
                fail("the example has no " + group);
            }
        }
        System.out.println(asked + " calls of README.md, " + wrong + " not as it says");
        if (wrong != 0 || asked == 0) {
            System.exit(1);
        }
    }

    private static void follow(TwentyPushes x, String line) throws InvocationTargetException, IllegalAccessException {
        Matcher fed = FED.matcher(line);
        Matcher call = CALL.matcher(line);
        if (fed.matches()) {
            fed.group(1).chars().forEach(x::feed);
        } else if (call.matches()) {
            asked++;
            long got = call(x, call.group(1), call.group(2).split(", "));
            if (got != Long.parseLong(call.group(3))) {
                fail(line.strip() + " answered " + got);
            }
        } else {
            fail("not a call with its answer: " + line);
        }
    }

    private static long call(TwentyPushes x, String name, String[] told) throws InvocationTargetException, IllegalAccessException {
        String[] numbers = told[0].isEmpty() ? new String[0] : told;
        for (Method method : TwentyPushes.class.getMethods()) {
            Class<?>[] types = method.getParameterTypes();
            if (method.getName().equals(name) && types.length == numbers.length) {
                Object[] given = new Object[numbers.length];
                Arrays.setAll(given, k -> types[k] == long.class ? (Object) Long.valueOf(numbers[k]) : (Object) Integer.valueOf(numbers[k]));
                return ((Number) method.invoke(x, given)).longValue();
            }
        }
        throw new IllegalStateException("there is no call " + name);
    }

    private static void fail(String why) {
        wrong++;
        System.out.println(why);
    }
}
