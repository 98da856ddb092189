import java.util.ArrayList;
import java.util.List;
import java.util.Random;

/** Random setup texts, valid ones and broken ones. */
final class SetupTexts {
    private static final String[] NAMES = {"a", "b", "ab", "abc", "ann", "anna", "annab", "bob",
        "cy", "di", "zed", "z", "zz", "m", "mm", "mmm", "n", "nn", "aq", "aa", "qa", "zzzzzz", "foodie", "food", "fuel", "home", "hut", "x", "y", "life", "q"};
    private static final String[] ODD = {";", "", ";;", "tier", "category", "promo", "member",
        "house", "life", "window", "grace", "x", "toolong", "0", "1", "12345678", "0000005",
        "10000", "1000001", "-", "A", "\u00e9", "\t", "5x", "{", "`", "/", ":", "\u0001"};

    private final Random random;
    private final List<String> free = new ArrayList<>();

    SetupTexts(Random random) {
        this.random = random;
    }

    String name() {
        return NAMES[random.nextInt(NAMES.length)] + (random.nextInt(6) == 0 ? " " : "");
    }

    private String newName() {
        return free.remove(random.nextInt(free.size()));
    }

    String valid() {
        return String.join(";", statements(true));
    }

    /** A text of few or many statements, with something odd in it mostly. */
    String broken() {
        List<String> parts = statements(false);
        for (int i = random.nextInt(3); i > 0; i--) {
            parts.set(random.nextInt(parts.size()), ODD[random.nextInt(ODD.length)]);
        }
        StringBuilder text = new StringBuilder(String.join(";", parts));
        for (int i = random.nextInt(3); i > 0; i--) {
            int at = random.nextInt(text.length() + 1);
            String odd = ODD[random.nextInt(ODD.length)];
            text.insert(at, random.nextBoolean() ? " " : random.nextBoolean() ? odd : " " + odd + " ");
        }
        if (random.nextInt(4) == 0) {
            text.setLength(random.nextInt(text.length() + 1));
        }
        text.setLength(Math.min(text.length(), 600));
        return text.toString();
    }

    private List<String> statements(boolean valid) {
        free.clear();
        for (String name : NAMES) {
            if (!name.equals("life") && !name.equals("x")) {
                free.add(name);
            }
        }
        // There are more names than statements; a broken text may have a statement too many.
        int more = valid ? 0 : random.nextInt(2);
        List<String> parts = new ArrayList<>();
        tiers(parts, random.nextInt(6) + (more > 0 && random.nextInt(4) == 0 ? 1 : 0));
        int categories = random.nextInt(4) + (random.nextInt(4) == 0 ? 0 : 1);
        List<String> categoryNames = new ArrayList<>();
        for (int i = 0; i < categories; i++) {
            categoryNames.add(newName());
            int cap = random.nextBoolean() ? 0 : random.nextInt(800);
            parts.add("category " + categoryNames.get(i) + " " + random.nextInt(51) + " " + cap);
        }
        for (int i = random.nextInt(4); i > 0 && categories > 0; i--) {
            int from = random.nextInt(60);
            parts.add("promo " + categoryNames.get(random.nextInt(categories)) + " " + from + " "
                    + (from + random.nextInt(80)) + " " + (1 + random.nextInt(500)));
        }
        for (int i = random.nextInt(random.nextInt(5) == 0 ? 12 : 5); i >= 0; i--) {
            parts.add("member " + newName());
        }
        for (int i = random.nextInt(5); i > 0 && !free.isEmpty(); i--) {
            parts.add("house " + newName() + " " + random.nextInt(101));
        }
        periods(parts);
        if (more > 0 && random.nextInt(3) == 0) {
            parts.add(random.nextBoolean() ? "grace 3" : "life 7");
        }
        return parts;
    }

    private void tiers(List<String> parts, int count) {
        int threshold = 0;
        for (int i = 0; i < count; i++) {
            parts.add("tier " + newName() + " " + threshold + " " + random.nextInt(301));
            threshold += 1 + random.nextInt(random.nextBoolean() ? 100 : 2000);
        }
    }

    private void periods(List<String> parts) {
        if (random.nextInt(5) != 0) {
            parts.add("life " + (1 + random.nextInt(random.nextInt(4) == 0 ? 1000 : 30)));
        }
        if (random.nextInt(5) != 0) {
            parts.add("window " + (1 + random.nextInt(random.nextInt(4) == 0 ? 1000 : 30)));
        }
        if (random.nextInt(5) != 0) {
            parts.add("grace " + random.nextInt(random.nextInt(4) == 0 ? 401 : 12));
        }
    }
}
