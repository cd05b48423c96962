import java.lang.reflect.InvocationTargetException;
import java.lang.reflect.Method;
import java.nio.file.Files;
import java.nio.file.Path;
import java.util.Arrays;
import java.util.HashSet;
import java.util.Set;
import java.util.regex.Matcher;
import java.util.regex.Pattern;

/** The examples of README.md answer what stands beside their calls, so that the page cannot fall behind the class. */
public final class FactSharesReadme {
    private static final Pattern EXAMPLE = Pattern.compile("```java\n(.*?)```", Pattern.DOTALL);
    private static final Pattern CALL = Pattern.compile("x\\.(\\w+)\\(([-0-9, ]*)\\);\\s*// (-?\\d+)(?:[: ].*)?");
    private static final String NEW = "FactShares x = new FactShares();";

    private static final Set<String> CALLED = new HashSet<>();
    private static int wrong = 0;

    public static void main(String[] args) throws Exception {
        String page = Files.readString(Path.of("README.md"));
        Matcher example = EXAMPLE.matcher(page);
        int count = 0;
        while (example.find()) {
            count++;
            runExample(example.group(1));
        }
        if (count == 0) {
            tell("README.md has no example");
        }
        testTable(page);
        System.out.println(count + " examples, " + CALLED.size() + " sorts of calls, "
            + (wrong == 0 ? "all answers are as due" : wrong + " faults"));
        if (wrong != 0) {
            System.exit(1);
        }
    }

    private static void tell(String fault) {
        wrong++;
        System.out.println(fault);
    }

    private static void runExample(String example) throws IllegalAccessException {
        FactShares x = null;
        for (String line : example.split("\n")) {
            Matcher call = CALL.matcher(line.strip());
            if (line.strip().equals(NEW)) {
                x = new FactShares();
            } else if (x == null || !call.matches()) {
                tell("README.md has a line that is no call with its answer: " + line);
            } else {
                due(x, call.group(1), call.group(2), Integer.parseInt(call.group(3)));
            }
        }
    }

    private static void due(FactShares x, String name, String numbers, int want) throws IllegalAccessException {
        Object[] values = numbers.isBlank() ? new Object[0]
            : Arrays.stream(numbers.split(",")).map(n -> Integer.valueOf(n.strip())).toArray();
        String call = name + "(" + numbers + ")";
        Method method = methodNamed(name);
        if (method == null || method.getParameterCount() != values.length) {
            tell("README.md calls what is not there: " + call);
            return;
        }
        CALLED.add(name);
        try {
            Object got = method.invoke(x, values);
            if (!got.equals(want)) {
                tell(call + " answered " + got + ", README.md has " + want);
            }
        } catch (InvocationTargetException e) {
            tell(call + " threw " + e.getCause());
        }
    }

    private static Method methodNamed(String name) {
        for (Method method : FactShares.class.getDeclaredMethods()) {
            if (method.getName().equals(name)) {
                return method;
            }
        }
        return null;
    }

    /** Each call of the face has its row. */
    private static void testTable(String page) {
        String[] face = {"share", "act", "fact", "end", "workers", "lose", "seed", "set", "run", "told", "doer", "clear"};
        for (String name : face) {
            if (!page.contains("| `" + name + "(")) {
                tell("README.md has no row of " + name);
            }
        }
    }
}
