import java.util.ArrayList;
import java.util.List;
import java.util.Random;

/** Texts for RandomTest: good ones, good ones with something changed, and names. */
final class RandomText {
    private static final String[] NAMES = {"a", "b", "cy", "dan", "eeeeee", "zz", "ra", "agents", "tru", "q"};
    private static final String[] ODD = {";", "", "rules", "agent", "way", "link", "probe", "trust", "abcdefg", "a",
        "zz", "0", "11", "99", "100", "999", "1000", "99999999999", "4294967296", ".", "A", "\t", "\u00ff", "5 5", "x;"};

    private RandomText() {
    }

    static String good(Random random) {
        return String.join(" ", tokens(random));
    }

    static String any(Random random) {
        if (random.nextInt(4) == 0) {
            return NAMES[random.nextInt(NAMES.length)] + (random.nextInt(4) == 0 ? ODD[random.nextInt(15)] : "");
        }
        List<String> tokens = tokens(random);
        if (random.nextInt(3) != 0) {
            change(tokens, random);
        }
        String text = String.join(random.nextInt(9) == 0 ? "" : random.nextInt(3) == 0 ? "\n" : " ", tokens);
        return text.length() > 600 ? text.substring(0, 600) : text;
    }

    private static void change(List<String> tokens, Random random) {
        int at = random.nextInt(tokens.size());
        String odd = ODD[random.nextInt(ODD.length)];
        switch (random.nextInt(4)) {
            case 0:
                tokens.set(at, odd);
                break;
            case 1:
                tokens.add(at, odd);
                break;
            case 2:
                tokens.remove(at);
                break;
            default:
                tokens.subList(at, tokens.size()).clear();
                break;
        }
    }

    private static List<String> tokens(Random random) {
        List<String> tokens = new ArrayList<>();
        add(tokens, "rules", "drift", n(random, 3, 20), "slack", n(random, 4, 50), "least", n(random, 4, 10), "age",
                "" + (1 + random.nextInt(random.nextBoolean() ? 99 : 12)), "hops", "" + (1 + random.nextInt(3)), ";");
        int agents = random.nextInt(6) == 0 ? random.nextInt(7) : 3 + random.nextInt(4);
        int ways = random.nextInt(6) == 0 ? random.nextInt(7) : 1 + random.nextInt(4);
        int shift = random.nextInt(4);
        for (int i = 0; i < agents; i++) {
            add(tokens, "agent", NAMES[i + shift], ";");
        }
        for (int i = 0; i < ways; i++) {
            add(tokens, "way", NAMES[9 - i - shift], ";");
        }
        int dense = 1 + random.nextInt(4);
        for (int i = 0; i < agents; i++) {
            for (int j = 0; j < i; j++) {
                if (random.nextInt(4) < dense && length(tokens) < 450) {
                    boolean turned = random.nextBoolean();
                    add(tokens, "link", NAMES[(turned ? i : j) + shift], NAMES[(turned ? j : i) + shift]);
                    if (random.nextBoolean()) {
                        add(tokens, "trust", "" + random.nextInt(11));
                    }
                    add(tokens, ";");
                }
            }
        }
        for (int i = 0; agents > 0 && ways > 0 && i < 12 && length(tokens) < 560; i++) {
            int low = random.nextInt(random.nextInt(4) == 0 ? 1000 : 300);
            int high = low + random.nextInt(random.nextBoolean() ? 1000 - low : 100);
            add(tokens, "probe", NAMES[random.nextInt(agents) + shift], NAMES[9 - random.nextInt(ways) - shift],
                    "" + low, "" + Math.min(999, high), ";");
        }
        return tokens;
    }

    private static String n(Random random, int often, int most) {
        return "" + random.nextInt((random.nextBoolean() ? often : most) + 1);
    }

    private static int length(List<String> tokens) {
        return String.join(" ", tokens).length();
    }

    private static void add(List<String> tokens, String... more) {
        tokens.addAll(List.of(more));
    }
}
