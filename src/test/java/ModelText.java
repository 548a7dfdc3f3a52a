import java.util.List;
import java.util.regex.Matcher;
import java.util.regex.Pattern;

/** The texts of Model: tokens by a pattern, statements by a template for each kind. */
final class ModelText {
    private static final Pattern TOKEN = Pattern.compile("[a-z]+|[0-9]+|[^ \\na-z0-9]");
    private static final List<String> KEYWORDS = List.of("rules", "drift", "slack", "least", "age", "hops", "agent",
            "way", "link", "trust", "probe");

    int code = 0;
    int position = -1;
    private final String text;
    private final Matcher tokens;
    private final Model.World world = new Model.World();
    private String token = "";
    private int at = 0;

    private static final class Stop extends RuntimeException {
        private static final long serialVersionUID = 1;
    }

    ModelText(String text) {
        this.text = text;
        this.tokens = TOKEN.matcher(text);
    }

    Model.World parse() {
        try {
            take();
            String[] template = {"rules", "drift", "slack", "least", "age", "hops"};
            int[] most = {20, 50, 10, 99, 3};
            for (int i = 0; i < 6; i++) {
                word(template[i]);
                if (i > 0) {
                    world.rules[i - 1] = number(i < 4 ? 0 : 1, most[i - 1]);
                }
            }
            word(";");
            while (!token.isEmpty()) {
                statement();
            }
            return world;
        } catch (Stop stop) {
            return null;
        }
    }

    private void statement() {
        String first = token;
        if (first.equals("agent") || first.equals("way")) {
            List<String> names = first.equals("agent") ? world.agents : world.ways;
            need(names.size() < 6, 4);
            take();
            need(isName(), 1);
            need(!names.contains(token), 3);
            names.add(token);
            if (first.equals("agent")) {
                world.lists.add(new java.util.ArrayList<>());
            }
            take();
        } else if (first.equals("link")) {
            take();
            int a = known(world.agents);
            need(isName(), 1);
            int b = world.agents.indexOf(token);
            need(b >= 0 && b != a && world.trust[a][b] == null, 3);
            take();
            int trust = 5;
            if (token.equals("trust")) {
                take();
                trust = number(0, 10);
            }
            world.trust[a][b] = trust;
            world.trust[b][a] = trust;
        } else {
            word("probe");
            int a = known(world.agents);
            int way = known(world.ways);
            int low = number(0, 999);
            world.probe(a, way, low, number(low, 999));
        }
        word(";");
    }

    private int known(List<String> names) {
        need(isName(), 1);
        int index = names.indexOf(token);
        need(index >= 0, 3);
        take();
        return index;
    }

    private boolean isName() {
        return token.matches("[a-z]{1,6}") && !KEYWORDS.contains(token);
    }

    private int number(int from, int to) {
        need(token.matches("[0-9]+"), 1);
        java.math.BigInteger value = new java.math.BigInteger(token);
        need(value.bitLength() < 20 && value.intValue() >= from && value.intValue() <= to, 2);
        take();
        return value.intValue();
    }

    private void word(String due) {
        need(token.equals(due), 1);
        take();
    }

    private void take() {
        if (tokens.find()) {
            token = tokens.group();
            at = tokens.start();
        } else {
            token = "";
            at = text.length();
        }
    }

    private void need(boolean good, int error) {
        if (!good) {
            code = error;
            position = at;
            throw new Stop();
        }
    }
}
