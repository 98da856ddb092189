import java.lang.reflect.InvocationTargetException;
import java.lang.reflect.Method;
import java.lang.reflect.Modifier;
import java.util.ArrayList;
import java.util.Comparator;
import java.util.List;
import java.util.Random;

/**
 * Runs of random calls, each made on the program and on the model of the document; the seeds
 * are fixed. A run has 512 calls at most, which is as long as an object answers.
 */
public final class ModelTest {
    private static final int CALLS = 512;
    private static final List<Method> FACE = face();

    private final Random random;
    private final PointsLedger ledger = new PointsLedger();
    private final LedgerModel model = new LedgerModel();
    private final List<String> calls = new ArrayList<>();
    /** How often this run prefers days that pass to purchases. */
    private final int haste;
    private final int longest;

    private ModelTest(long seed) {
        random = new Random(seed);
        haste = 1 + random.nextInt(4);
        longest = random.nextInt(3) == 0 ? 400 : 12;
    }

    public static void main(String[] args) {
        int runs = args.length > 0 ? Integer.parseInt(args[0]) : 1500;
        for (long seed = 0; seed < runs; seed++) {
            new ModelTest(seed).run(seed);
        }
        System.out.println("ModelTest: " + runs + " runs, 0 wrong");
    }

    private static List<Method> face() {
        List<Method> face = new ArrayList<>();
        for (Method method : PointsLedger.class.getDeclaredMethods()) {
            if (Modifier.isPublic(method.getModifiers())) {
                face.add(method);
            }
        }
        // The order in which reflection gives the methods is not fixed.
        face.sort(Comparator.comparing(Method::getName));
        return face;
    }

    private void run(long seed) {
        if (random.nextInt(20) != 0) {
            type(new SetupTexts(random).valid());
            call(seed, "load");
        }
        while (calls.size() < CALLS) {
            int kind = random.nextInt(100);
            if (kind < 35) {
                call(seed, change());
            } else if (kind < 38) {
                call(seed, List.of("undo", "undo", "undo", "save", "restore").get(random.nextInt(5)));
            } else if (kind < 40 && CALLS - calls.size() > 100) {
                text(seed);
            } else {
                call(seed, FACE.get(random.nextInt(FACE.size())).getName());
            }
        }
    }

    private String change() {
        String[] seldom = {"join", "leave", "setShare", "transfer", "join"};
        int kind = random.nextInt(12 + haste);
        if (kind < 5) {
            return "purchase";
        }
        if (kind < 7) {
            return "redeem";
        }
        if (kind < 8) {
            return "refund";
        }
        return kind < 12 ? seldom[random.nextInt(seldom.length)] : "advance";
    }

    private void text(long seed) {
        call(seed, "truncate", 0);
        SetupTexts texts = new SetupTexts(random);
        type(random.nextInt(3) == 0 ? texts.name() : texts.broken());
        call(seed, "errorPosition");
        call(seed, "find");
        if (random.nextInt(8) == 0) {
            call(seed, "load");
        }
    }

    private void type(String text) {
        for (int at = 0; at < text.length(); at += 20) {
            int[] words = new int[5];
            for (int i = 0; i < 20; i++) {
                int one = at + i < text.length() ? text.charAt(at + i) & 255 : 0;
                words[i / 4] = words[i / 4] << 8 | one;
            }
            call(-1, "append", words);
        }
    }

    private void call(long seed, String name, int... given) {
        Method method = FACE.stream().filter(m -> m.getName().equals(name)).findFirst().orElseThrow();
        Object[] arguments = new Object[method.getParameterCount()];
        for (int i = 0; i < arguments.length; i++) {
            arguments[i] = i < given.length ? given[i] : argument(name, i);
        }
        calls.add(name + java.util.Arrays.toString(arguments));
        String got = answer(method, ledger, arguments);
        String want = answer(counterpart(method), model, arguments);
        if (!got.equals(want)) {
            System.out.println("run " + seed + ", after " + calls);
            System.out.println("answered " + got + ", due is " + want);
            System.exit(1);
        }
    }

    private static Method counterpart(Method method) {
        try {
            return LedgerModel.class.getMethod(method.getName(), method.getParameterTypes());
        } catch (NoSuchMethodException e) {
            throw new IllegalStateException(e);
        }
    }

    private static String answer(Method method, Object on, Object[] arguments) {
        try {
            return String.valueOf(method.invoke(on, arguments));
        } catch (InvocationTargetException e) {
            return e.getCause().getClass().getName();
        } catch (IllegalAccessException e) {
            throw new IllegalStateException(e);
        }
    }

    /** A fitting argument mostly, one just out of range or far off sometimes. */
    private int argument(String name, int place) {
        if (random.nextInt(40) == 0) {
            int[] odd = {-1, 0, Integer.MIN_VALUE, Integer.MAX_VALUE, 12, 8, 4, 100001, 100000, 10000};
            return odd[random.nextInt(odd.length)];
        }
        int members = model.setup(3);
        return switch (name) {
            case "append" -> 0;
            case "truncate" -> random.nextInt(30);
            case "purchase", "wouldEarn" -> place == 0 ? below(members)
                    : place == 1 ? below(model.setup(1)) : cents();
            case "refund", "purchasePart" -> place == 1 ? random.nextInt(8)
                    : model.purchaseCount() - 1 - random.nextInt(random.nextInt(6) == 0 ? 42 : 8);
            case "redeem" -> place == 0 ? below(members) : 1 + random.nextInt(random.nextBoolean() ? 50 : 3000);
            case "transfer" -> place < 2 ? below(members)
                    : 1 + random.nextInt(random.nextBoolean() ? 30 : 1000);
            case "join" -> place == 0 ? below(members) : below(model.setup(4));
            case "setShare" -> place == 0 ? below(model.setup(4)) : random.nextInt(102);
            case "advance" -> 1 + random.nextInt(longest);
            case "setup", "total" -> random.nextInt(9);
            case "threshold" -> below(model.setup(0));
            case "extras" -> place == 0 ? below(model.setup(1))
                    : random.nextBoolean() ? model.today() : random.nextInt(10001);
            case "cohort", "poolCohort" -> place == 0
                    ? below(name.equals("cohort") ? members : model.setup(4))
                    : random.nextInt(place == 1 ? 6 : 3);
            case "members", "poolBalance", "poolCohortCount", "poolBreakage" -> below(model.setup(4));
            case "tierAfter", "expiringWithin" -> place == 0 ? below(members)
                    : random.nextInt(random.nextInt(10) == 0 ? 2002 : 60);
            case "bestCategory" -> place == 0 ? below(members) : cents();
            case "leastCents" -> place == 0 ? below(members)
                    : place == 1 ? below(model.setup(1)) : 1 + random.nextInt(600);
            case "redeemedWith" -> random.nextInt(11);
            case "log" -> random.nextInt(place == 0 ? 31 : 4);
            default -> below(members);
        };
    }

    /** A number below the count, seldom the count itself. */
    private int below(int count) {
        return count == 0 ? 0 : random.nextInt(count) + (random.nextInt(30) == 0 ? 1 : 0);
    }

    private int cents() {
        int[] most = {300, 3000, 20000, 100000};
        return 1 + random.nextInt(most[random.nextInt(most.length)]);
    }
}
