import java.io.IOException;
import java.lang.reflect.Method;
import java.lang.reflect.Modifier;
import java.nio.file.Files;
import java.nio.file.Path;
import java.util.List;
import java.util.Set;
import java.util.TreeSet;
import java.util.regex.Matcher;
import java.util.regex.Pattern;

/** Makes the calls that README.md shows, on one object from its first line to its last, and compares the answers behind them. */
public final class ReadmeTests {
    private static final String MADE = "WhileSaltMelts x = new WhileSaltMelts();";
    private static final Pattern CALL = Pattern.compile("x\\.([a-z]+)\\((.*)\\); *// (-?[0-9]+|[A-Z]+)(?::.*)?");

    private static int wrong;
    private static int calls;

    private static void fail(String what) {
        wrong++;
        System.out.println("README.md: " + what);
    }

    private static Method named(String name) {
        for (Method method : WhileSaltMelts.class.getDeclaredMethods()) {
            if (Modifier.isPublic(method.getModifiers()) && method.getName().equals(name)) {
                return method;
            }
        }
        return null;
    }

    private static Object[] arguments(Method method, String written) {
        String[] each = written.isEmpty() ? new String[0] : written.split(", *");
        Object[] arguments = new Object[each.length];
        for (int k = 0; k < each.length; k++) {
            if (method.getParameterTypes()[k] == long.class) {
                arguments[k] = Long.decode(each[k].replace("L", ""));
            } else {
                arguments[k] = Integer.decode(each[k]);
            }
        }
        return arguments;
    }

    private static int answer(String written) throws ReflectiveOperationException {
        return Character.isLetter(written.charAt(0)) ? WhileSaltMelts.class.getField(written).getInt(null) : Integer.parseInt(written);
    }

    private static void call(WhileSaltMelts x, String line, Set<String> shown) throws ReflectiveOperationException {
        Matcher matcher = CALL.matcher(line);
        Method method = matcher.matches() ? named(matcher.group(1)) : null;
        if (x == null || method == null) {
            fail("no call with its answer: " + line);
            return;
        }
        calls++;
        shown.add(method.getName());
        shown.add(matcher.group(3));
        Object got = method.invoke(x, arguments(method, matcher.group(2)));
        int want = answer(matcher.group(3));
        if (!got.equals(want)) {
            fail(line + " answered " + got);
        }
    }

    /** A page that leaves out a call or a refusal does not tell how to use the class. */
    private static void allShown(Set<String> shown) {
        for (Method method : WhileSaltMelts.class.getDeclaredMethods()) {
            if (Modifier.isPublic(method.getModifiers()) && !shown.contains(method.getName())) {
                fail("does not show " + method.getName());
            }
        }
        for (String refusal : List.of("BAD", "NO", "FULL", "NONE")) {
            if (!shown.contains(refusal)) {
                fail("does not show " + refusal);
            }
        }
    }

    public static void main(String[] arguments) throws IOException, ReflectiveOperationException {
        WhileSaltMelts x = null;
        Set<String> shown = new TreeSet<>();
        boolean within = false;
        for (String line : Files.readAllLines(Path.of("README.md"))) {
            if (line.startsWith("```")) {
                within = line.equals("```java");
            } else if (within && line.equals(MADE)) {
                x = new WhileSaltMelts();
            } else if (within) {
                call(x, line, shown);
            }
        }
        allShown(shown);
        System.out.println(calls + " calls: " + (wrong == 0 ? "all answers are as due" : wrong + " are not as due"));
        if (wrong != 0) {
            System.exit(1);
        }
    }
}
