import java.lang.reflect.InvocationTargetException;
import java.lang.reflect.Method;
import java.util.HashMap;
import java.util.Map;
import java.util.Random;
import java.util.TreeMap;

/** Long runs of all calls, with right and wrong values, on PathTrust and on Model: each answer is the same. */
public final class RandomTest {
    /** An object is used for at most so many calls; what later ones answer is free. */
    private static final int CALLS = 512;
    private static final int RANDOM_CALLS = 400;

    /** Behind each name the kinds of its parameters; see value(). A name that stands more often comes more often. */
    private static final String[] CALLS_OF_FACE = {
        "append xxxxx", "truncate x", "findAgent", "findWay", "load", "errorCode", "errorPosition",
        "property q", "trust aa", "neighbors a", "distance aa", "bottleneck aa", "mostTrusted a", "reports a",
        "report aip", "status ai", "moved aie", "own aw", "belief awe", "sources aw", "contradicted aw",
        "majority aw", "majorityBound awe", "best ae", "rivals a", "nextProbe a", "regret a", "saved a",
        "agreeing aa", "common we", "account ap", "message mp", "standing a", "beliefIf awbce", "trustIf awbca",
        "informed awr", "widthAfter awt", "widthWithout awa", "mostUseful a", "bestThen a",
        "probe awbc", "probe awbc", "probe awbc", "probe awbc", "share a", "share a", "share a", "relay a", "relay a",
        "deliver m", "deliver m", "lose", "exchange r", "pass u", "pass u", "link aaf", "link aaf", "setTrust aav",
        "setTrust aav", "setRule pv", "forget aw", "cleanse a", "keep s", "restore s", "undo", "undo", "undoCount",
        "writeBeliefs a", "writeReports a", "outputByte o",
    };

    private static final Map<String, Method> FACE = methods(PathTrust.class);
    private static final Map<String, Method> MODEL = methods(Model.class);
    private static final Map<String, Integer> SEEN = new TreeMap<>();

    public static void main(String[] args) throws Exception {
        int runs = args.length > 0 ? Integer.parseInt(args[0]) : 600;
        int seed = args.length > 1 ? Integer.parseInt(args[1]) : 1;
        boolean good = true;
        for (int run = 0; run < runs && good; run++) {
            good = new RandomTest(seed * 1000003L + run).run();
            Check.is("run " + run, good, true);
        }
        for (String call : CALLS_OF_FACE) {
            String name = call.split(" ")[0];
            Check.is(name + " answered without an exception", SEEN.containsKey(name), true);
        }
        Check.is("all methods of the face are called", FACE.size(), 59);
        if (args.length > 2) {
            System.out.println(SEEN);
        }
        Check.end("RandomTest");
    }

    private final Random random;
    private final PathTrust x = new PathTrust();
    private final Model model = new Model();
    private final StringBuilder log = new StringBuilder();
    private int calls = 0;

    private RandomTest(long seed) {
        random = new Random(seed);
    }

    private static Map<String, Method> methods(Class<?> type) {
        Map<String, Method> found = new HashMap<>();
        for (Method m : type.getDeclaredMethods()) {
            if (java.lang.reflect.Modifier.isPublic(m.getModifiers())) {
                found.put(m.getName(), m);
            }
        }
        return found;
    }

    private boolean run() throws Exception {
        if (random.nextInt(8) != 0 && !text(RandomText.good(random))) {
            return false;
        }
        while (calls < RANDOM_CALLS) {
            if (random.nextInt(60) == 0 && !text(RandomText.any(random))) {
                return false;
            }
            String[] call = CALLS_OF_FACE[random.nextInt(CALLS_OF_FACE.length)].split(" ");
            if (call[0].equals("load") && random.nextInt(4) != 0) {
                continue;
            }
            String kinds = call.length > 1 ? call[1] : "";
            Object[] values = new Object[kinds.length()];
            for (int k = 0; k < values.length; k++) {
                values[k] = value(kinds.charAt(k));
            }
            if (!same(call[0], values)) {
                return false;
            }
        }
        return sameState();
    }

    /** Puts a text in the buffers, and loads it, or looks for a name. */
    private boolean text(String text) throws Exception {
        boolean good = same("truncate", 0);
        for (int i = 0; i < text.length(); i += 20) {
            Object[] words = new Object[5];
            for (int k = 0; k < 20; k++) {
                int sign = i + k < text.length() ? text.charAt(i + k) & 255 : random.nextInt(256);
                words[k / 4] = k % 4 == 0 ? sign : (Integer) words[k / 4] << 8 | sign;
            }
            good = good && same("append", words);
        }
        good = good && same("truncate", text.length());
        if (text.length() < 8) {
            return good && same(random.nextBoolean() ? "findAgent" : "findWay");
        }
        return good && same("load") && same("errorCode") && same("errorPosition");
    }

    private Object value(char kind) {
        int wild = random.nextInt(400);
        if (wild < 4) {
            return kind == 'f' ? (Object) random.nextBoolean()
                    : (Object) new int[] {Integer.MIN_VALUE, Integer.MAX_VALUE, -1, 31}[wild];
        }
        switch (kind) {
            case 'a':
                return near(model.w.agents.size());
            case 'w':
                return near(model.w.ways.size());
            case 'i':
                return near(random.nextBoolean() ? 6 : 2);
            case 'm':
                return near(random.nextBoolean() ? 100 : 8);
            case 'q':
                return near(10);
            case 'p':
                return near(6);
            case 'e':
                return near(2);
            case 'r':
                return near(random.nextBoolean() ? 7 : 3);
            case 't':
                return near(random.nextBoolean() ? 100 : 8);
            case 'u':
                return near(random.nextInt(20) == 0 ? 100 : 8);
            case 'v':
                return near(random.nextInt(8) == 0 ? 60 : 12);
            case 's':
                return near(2);
            case 'b':
                return near(random.nextInt(8) == 0 ? 1000 : 300);
            case 'c':
                return 150 + near(random.nextInt(8) == 0 ? 850 : 300);
            case 'o':
                return near(Math.max(1, model.output.length()));
            case 'f':
                return random.nextInt(4) != 0;
            default:
                return random.nextInt(2) == 0 ? random.nextInt() : random.nextInt(600);
        }
    }

    /** Mostly 0 to less than the count, and sometimes one beside that. */
    private int near(int count) {
        int pick = random.nextInt(40);
        return pick == 0 ? -1 : pick == 1 ? count : count < 1 ? 0 : random.nextInt(count);
    }

    private boolean same(String name, Object... values) throws Exception {
        if (calls >= CALLS) {
            return true;
        }
        calls++;
        Object got = answer(FACE.get(name), x, values);
        Object due = answer(MODEL.get(name), model, values);
        if (!(got instanceof Class)) {
            SEEN.merge(name, 1, Integer::sum);
        }
        log.append(name).append(java.util.Arrays.toString(values)).append(" = ").append(due).append('\n');
        if (!java.util.Objects.equals(got, due)) {
            System.out.println(log + "but it answered " + got);
            return false;
        }
        return true;
    }

    private static Object answer(Method method, Object on, Object[] values) throws Exception {
        try {
            return method.invoke(on, values);
        } catch (InvocationTargetException e) {
            return e.getCause().getClass();
        }
    }

    /** Compares all that can be seen, as far as the calls go: the agents in turn from any one of them. */
    private boolean sameState() throws Exception {
        boolean good = same("undoCount");
        for (int what = 0; what < 10; what++) {
            good = good && same("property", what);
        }
        int agents = model.w.agents.size();
        int first = random.nextInt(6);
        for (int i = 0; i < agents; i++) {
            good = good && sameAgent((first + i) % agents);
        }
        for (int i = 0; i <= model.w.queue.size(); i++) {
            good = good && same("message", i, random.nextInt(6));
        }
        return good;
    }

    private boolean sameAgent(int agent) throws Exception {
        boolean good = same("writeBeliefs", agent) && sameOutput(1) && same("writeReports", agent) && sameOutput(5);
        for (int other = 0; other < 6; other++) {
            good = good && same("trust", agent, other) && same("account", agent, other);
        }
        for (int way = 0; way < model.w.ways.size(); way++) {
            good = good && same("majority", agent, way) && same("majorityBound", agent, way, random.nextInt(2));
        }
        for (int i = 0; i <= model.w.lists.get(agent).size(); i++) {
            good = good && same("report", agent, i, random.nextInt(7)) && same("moved", agent, i, random.nextInt(2));
        }
        return good;
    }

    private boolean sameOutput(int step) throws Exception {
        boolean good = true;
        for (int i = random.nextInt(step); i <= model.output.length(); i += step) {
            good = good && same("outputByte", i);
        }
        return good;
    }
}
