import java.io.IOException;
import java.lang.reflect.InvocationTargetException;
import java.lang.reflect.Method;
import java.nio.file.Files;
import java.nio.file.Path;
import java.util.Set;
import java.util.TreeSet;
import java.util.regex.Matcher;
import java.util.regex.Pattern;
import java.util.stream.Stream;

/** What README.md says is true: the answers of its calls, its list of calls, its list of tests. */
public final class ReadmeTest {
    private static final Checks CHECKS = new Checks();
    private static final Pattern BLOCK = Pattern.compile("(?s)```java\n(.*?)```");
    private static final Pattern TEXT = Pattern.compile("// \"([^\"]*)\"");
    private static final Pattern CALL =
            Pattern.compile("ledger\\.(\\w+)\\(([^)]*)\\);\\s*// (-?\\w+)(: .*)?");
    private static final String NEW = "PointsLedger ledger = new PointsLedger();";

    private static PointsLedger ledger;
    private static final StringBuilder announced = new StringBuilder();
    private static final StringBuilder appended = new StringBuilder();

    public static void main(String[] args) throws IOException, IllegalAccessException {
        String readme = Files.readString(Path.of("README.md"));
        int calls = 0;
        Matcher blocks = BLOCK.matcher(readme);
        while (blocks.find()) {
            for (String line : blocks.group(1).split("\n")) {
                calls += follow(line.trim()) ? 1 : 0;
            }
        }
        CHECKS.equal("some calls are shown", calls > 20 ? 1 : 0, 1);
        CHECKS.same("the texts that are appended", appended.toString(), announced.toString());
        CHECKS.same("the calls", named(readme, "| what | calls |", "`(\\w+)`").toString(),
                face().toString());
        CHECKS.same("the tests", named(readme, "| test |", "\\| `(\\w+)` \\|").toString(),
                tests().toString());
        CHECKS.finish("ReadmeTest");
    }

    /** Follows a line of the example; returns whether it is a call. */
    private static boolean follow(String line) throws IllegalAccessException {
        Matcher text = TEXT.matcher(line);
        Matcher call = CALL.matcher(line);
        if (line.equals(NEW)) {
            ledger = new PointsLedger();
        } else if (text.matches()) {
            announced.append(text.group(1));
        } else if (call.matches()) {
            CHECKS.same(line, answer(call.group(1), call.group(2)), call.group(3));
            return true;
        } else {
            CHECKS.same("a line of the example that is none", line, "");
        }
        return false;
    }

    private static String answer(String name, String written) throws IllegalAccessException {
        String[] parts = written.isEmpty() ? new String[0] : written.split(", ");
        Object[] numbers = new Object[parts.length];
        for (int i = 0; i < parts.length; i++) {
            numbers[i] = (int) (long) Long.decode(parts[i]);
        }
        if (name.equals("append")) {
            spell(numbers);
        }
        for (Method method : PointsLedger.class.getMethods()) {
            if (method.getName().equals(name) && method.getParameterCount() == parts.length) {
                try {
                    return method.invoke(ledger, numbers).toString();
                } catch (InvocationTargetException e) {
                    return e.getCause().getClass().getSimpleName();
                }
            }
        }
        return "no such call";
    }

    private static void spell(Object[] numbers) {
        for (Object number : numbers) {
            for (int shift = 24; shift >= 0; shift -= 8) {
                int one = (int) number >>> shift & 255;
                appended.append(one == 0 ? "" : Character.toString(one));
            }
        }
    }

    /** The names of this form in the table that begins with these words. */
    private static Set<String> named(String readme, String beginning, String form) {
        Set<String> names = new TreeSet<>();
        int start = readme.indexOf(beginning);
        CHECKS.equal("there is a table " + beginning, start >= 0 ? 1 : 0, 1);
        if (start >= 0) {
            Matcher matcher = Pattern.compile(form).matcher(readme.substring(start).split("\n\n")[0]);
            while (matcher.find()) {
                names.add(matcher.group(1));
            }
        }
        return names;
    }

    private static Set<String> face() {
        Set<String> names = new TreeSet<>();
        for (Method method : PointsLedger.class.getMethods()) {
            if (method.getDeclaringClass() == PointsLedger.class) {
                names.add(method.getName());
            }
        }
        return names;
    }

    private static Set<String> tests() throws IOException {
        Set<String> names = new TreeSet<>();
        try (Stream<Path> files = Files.list(Path.of("src/test/java"))) {
            files.map(file -> file.getFileName().toString())
                    .filter(name -> name.endsWith("Test.java"))
                    .forEach(name -> names.add(name.substring(0, name.length() - 5)));
        }
        return names;
    }
}
