import java.io.IOException;
import java.lang.reflect.Constructor;
import java.lang.reflect.Field;
import java.lang.reflect.Method;
import java.lang.reflect.Modifier;
import java.nio.file.Files;
import java.nio.file.Path;
import java.util.Arrays;
import java.util.Set;
import java.util.TreeSet;
import java.util.regex.Matcher;
import java.util.regex.Pattern;

/** The face is that of the document, and the file keeps to the rules that a test can see. */
public final class FaceTest {
    private static final Checks CHECKS = new Checks();
    private static final Path SOURCE = Path.of("src/main/java/PointsLedger.java");

    /** The face: name, parameters, and the exceptions by their first letters (N, S, A, I). */
    private static final String[] FACE = {"append 5 S", "truncate 1 A", "errorPosition 0", "load 0 A",
        "find 0 N", "purchase 3 IA", "refund 1 NS", "redeem 2 IAS", "transfer 3 IAS", "join 2 IS",
        "leave 1 IS", "setShare 2 IA", "advance 1 A", "setup 1 A", "threshold 1 I", "extras 2 IA",
        "today 0", "balance 1 I", "debt 1 I", "available 1 I", "cohortCount 1 I", "cohort 3 IA",
        "household 1 I", "members 1 I", "poolBalance 1 I", "poolCohortCount 1 I", "poolCohort 3 IA",
        "contributed 1 I", "total 1 A", "tier 1 I", "earnedTier 1 I", "qualifying 1 I",
        "belowSince 1 I", "toNextTier 1 IN", "tierAfter 2 IA", "wouldEarn 3 IA",
        "bestCategory 2 IAN", "leastCents 3 IAN", "purchaseCount 0", "purchasePart 2 NA",
        "expiringWithin 2 IA", "nextExpiry 1 IN", "redeemedWith 1 A", "breakage 1 I",
        "poolBreakage 1 I", "totalBreakage 0", "rankedMember 1 I", "logSize 0", "log 2 IA", "undo 0 S",
        "undoCount 0", "save 0", "restore 0 S"};

    /** What the language of the project has not. */
    private static final String[] BANNED = {"->", "::", "finally", "synchronized", "assert",
        "Object", "double", "float", "System.out", "System.exit", "hashCode", "equals", "toString",
        "Exact", "record ", "var ", "@", "+ \"", "\" +", "catch", "instanceof", "package ",
        "static {", "Random", "Thread"};

    public static void main(String[] args) throws IOException {
        face();
        fields();
        classes();
        String source = Files.readString(SOURCE);
        CHECKS.equal("signs of 1 to 127", source.chars().filter(c -> c < 1 || c > 127).count(), 0);
        words(source.replaceAll("(?s)/\\*.*?\\*/", "").replaceAll("//[^\n]*", ""));
        CHECKS.finish("FaceTest");
    }

    private static void face() {
        Set<String> due = new TreeSet<>(Arrays.asList(FACE));
        Set<String> got = new TreeSet<>();
        Set<String> names = new TreeSet<>();
        for (Method method : PointsLedger.class.getDeclaredMethods()) {
            if (Modifier.isPublic(method.getModifiers())) {
                got.add(described(method));
                names.add(method.getName());
                CHECKS.same("the type of " + method, method.getReturnType().getName(), "int");
            }
        }
        CHECKS.same("the face", got.toString(), due.toString());
        for (Method method : PointsLedger.class.getDeclaredMethods()) {
            boolean hidden = Modifier.isPrivate(method.getModifiers()) && !names.contains(method.getName());
            boolean shown = Modifier.isPublic(method.getModifiers());
            CHECKS.equal(method + " is of the face or hidden", shown || hidden ? 1 : 0, 1);
        }
        Constructor<?>[] constructors = PointsLedger.class.getDeclaredConstructors();
        CHECKS.equal("one constructor", constructors.length, 1);
        CHECKS.equal("a public one", constructors[0].getModifiers(), Modifier.PUBLIC);
        CHECKS.equal("public and final", PointsLedger.class.getModifiers(),
                Modifier.PUBLIC | Modifier.FINAL);
    }

    private static String described(Method method) {
        StringBuilder text = new StringBuilder(method.getName());
        text.append(' ').append(method.getParameterCount());
        for (int i = 0; i < method.getExceptionTypes().length; i++) {
            String name = method.getExceptionTypes()[i].getSimpleName();
            text.append(i == 0 ? " " : "").append(name.startsWith("IllegalS") ? "S"
                    : name.startsWith("IllegalA") ? "A" : name.substring(0, 1));
        }
        return text.toString();
    }

    private static void fields() {
        for (Field field : PointsLedger.class.getDeclaredFields()) {
            boolean shown = field.getName().equals("NONE");
            CHECKS.equal(field + " is shown", Modifier.isPrivate(field.getModifiers()) ? 0 : 1,
                    shown ? 1 : 0);
        }
    }

    private static void classes() {
        Class<?>[] inside = PointsLedger.class.getDeclaredClasses();
        CHECKS.equal("classes in the file", inside.length + 1 <= 12 ? 1 : 0, 1);
        for (Class<?> one : inside) {
            CHECKS.equal(one + " is hidden and static",
                    one.getModifiers() & (Modifier.PUBLIC | Modifier.PROTECTED | Modifier.STATIC),
                    Modifier.STATIC);
            CHECKS.equal(one + " holds no classes", one.getDeclaredClasses().length, 0);
            small(one);
        }
        small(PointsLedger.class);
    }

    private static void small(Class<?> one) {
        int fields = 0;
        for (Field field : one.getDeclaredFields()) {
            boolean fixed = Modifier.isStatic(field.getModifiers());
            fields += fixed ? 0 : 1;
            CHECKS.equal(field + " is final if static",
                    !fixed || Modifier.isFinal(field.getModifiers()) ? 1 : 0, 1);
        }
        CHECKS.equal("fields of " + one, fields <= 20 ? 1 : 0, 1);
        for (Method method : one.getDeclaredMethods()) {
            CHECKS.equal("parameters of " + method, method.getParameterCount() <= 7 ? 1 : 0, 1);
        }
    }

    private static void words(String code) {
        for (String word : BANNED) {
            CHECKS.equal("the code has " + word, code.contains(word) ? 1 : 0, 0);
        }
        Matcher imports = Pattern.compile("import ([^;]*);").matcher(code);
        while (imports.find()) {
            CHECKS.same("import", imports.group(1), "java.util.NoSuchElementException");
        }
        Matcher library = Pattern.compile("\\b(System|Math|Integer|Long|Arrays)\\.(\\w+)").matcher(code);
        while (library.find()) {
            boolean listed = Set.of("System.arraycopy", "Math.min", "Math.max", "Integer.bitCount")
                    .contains(library.group());
            CHECKS.equal(library.group() + " is of the library", listed ? 1 : 0, 1);
        }
        lengths(code);
    }

    private static void lengths(String code) {
        int start = 0;
        String[] lines = code.split("\n");
        for (int i = 0; i < lines.length; i++) {
            if (lines[i].matches(" {4}(    )?\\S.*[{(,]") && !lines[i].contains(" class ")) {
                start = i;
            }
            if (lines[i].matches(" {4}(    )?}")) {
                CHECKS.equal("the method up to line " + (i + 1) + " is short", i - start < 60 ? 1 : 0, 1);
                start = i;
            }
        }
    }
}
