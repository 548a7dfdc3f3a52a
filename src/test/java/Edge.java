import java.lang.reflect.Method;
import java.lang.reflect.Modifier;
import java.util.ArrayList;
import java.util.Comparator;
import java.util.List;

/** What the tests of edges share: each of them is a method of its own, and is named after its promise. */
final class Edge {
    static final int NONE = PathTrust.NONE;
    static final int LEAST = Integer.MIN_VALUE;
    static final int GREATEST = Integer.MAX_VALUE;
    /** Rules by which nothing moves, nobody is left out, and reports make three hops. */
    static final String STILL = "rules drift 0 slack 0 least 0 age 20 hops 3;";

    static final String[] KEYWORDS = {"rules", "drift", "slack", "least", "age", "hops", "agent", "way", "link",
        "trust", "probe"};

    private static String test = "";

    interface Make {
        PathTrust make();
    }

    interface Call {
        void on(PathTrust x);
    }

    interface CallOf {
        void on(PathTrust x, int value);
    }

    private Edge() {
    }

    static List<Method> tests(Class<?> type) {
        List<Method> found = new ArrayList<>();
        for (Method m : type.getDeclaredMethods()) {
            if (Modifier.isStatic(m.getModifiers()) && m.getName().matches("promise\\d\\d[A-Z]\\w+")) {
                m.setAccessible(true);
                found.add(m);
            }
        }
        found.sort(Comparator.comparing(Method::getName));
        return found;
    }

    static void runAll(Class<?> type) throws Exception {
        Check.limit();
        for (Method m : tests(type)) {
            test = m.getName();
            m.invoke(null);
        }
        Check.is("there are tests", tests(type).size() > 0, true);
        Check.end(type.getName());
    }

    static void is(String what, Object got, Object due) {
        Check.is(test + ": " + what, got, due);
    }

    static void is(Object got, Object due) {
        Check.is(test, got, due);
    }

    /** The rules, as many agents and ways as are told (a to f, u to z), and more statements. */
    static String text(String rules, int agents, int ways, String more) {
        StringBuilder text = new StringBuilder(rules);
        for (int i = 0; i < agents; i++) {
            text.append("agent ").append((char) ('a' + i)).append(';');
        }
        for (int i = 0; i < ways; i++) {
            text.append("way ").append((char) ('u' + i)).append(';');
        }
        return text.append(more).toString();
    }

    static PathTrust desk(String rules, int agents, int ways, String more) {
        return Check.made(text(rules, agents, ways, more));
    }

    static PathTrust desk(int agents, int ways, String more) {
        return desk(STILL, agents, ways, more);
    }

    /** Agent a in the midst of five others, which it trusts as much as is told. */
    static String star(int agents, int trust) {
        StringBuilder text = new StringBuilder();
        for (int i = 1; i < agents; i++) {
            text.append("link a ").append((char) ('a' + i)).append(" trust ").append(trust).append(';');
        }
        return text.toString();
    }

    /** Agents in a row, each one linked with the next one. */
    static String chain(int agents) {
        StringBuilder text = new StringBuilder();
        for (int i = 1; i < agents; i++) {
            text.append("link ").append((char) ('a' + i - 1)).append(' ').append((char) ('a' + i)).append(';');
        }
        return text.toString();
    }

    /**
     * A desk on which nothing is empty but slot 1: three agents, two ways, three messages, bytes in both buffers, a
     * parse error, and six calls that can be undone.
     */
    static PathTrust busy() {
        PathTrust x = Check.made("rules drift 1 slack 2 least 3 age 20 hops 2;agent a;agent b;agent c;way x;way y;"
                + "link a b trust 8;link b c;probe a x 100 120;probe b x 110 130;probe b y 50 60;");
        x.share(1);
        x.deliver(2);
        x.keep(0);
        x.pass(3);
        x.setRule(0, 2);
        x.setTrust(1, 2, 7);
        x.share(0);
        x.writeReports(0);
        Check.load(x, "rules.");
        Check.put(x, "b");
        return x;
    }

    /** Agent a has b's report of 100 to 200, and trusts b so much. */
    static PathTrust heard(int trust) {
        PathTrust x = desk(3, 2, "link a b trust " + trust + ";probe b u 100 200;");
        x.share(1);
        x.deliver(1);
        return x;
    }

    /** A desk with a full queue: a hundred messages from a to b, all of one probe. */
    static PathTrust full() {
        PathTrust x = desk(2, 1, "link a b;probe a u 5 9;");
        for (int i = 0; i < 100; i++) {
            x.share(0);
        }
        return x;
    }

    /** A desk on which agent a has as many reports as can be: 36, of six origins about six ways. */
    static PathTrust crowded() {
        PathTrust x = desk(6, 6, star(6, 5));
        for (int agent = 0; agent < 6; agent++) {
            for (int way = 0; way < 6; way++) {
                x.probe(agent, way, 0, 999);
            }
        }
        for (int agent = 1; agent < 6; agent++) {
            x.share(agent);
        }
        x.deliver(100);
        return x;
    }

    /** The call throws exactly this exception, and an object on which it was made is as one without it. */
    static void refuses(String what, Make make, Class<?> due, Call call) {
        PathTrust x = make.make();
        is(what, thrown(x, call), due);
        is(what + ", and what it left", all(x), all(make.make()));
    }

    static void refuses(Class<?> due, Call call) {
        refuses("refused", Edge::busy, due, call);
    }

    private static Object thrown(PathTrust x, Call call) {
        try {
            call.on(x);
            return "no exception";
        } catch (RuntimeException e) {
            return e.getClass();
        }
    }

    /** Stops behind a value that is not refused, as a far greater one might keep the call busy for long. */
    private static void refusesEach(Class<?> due, CallOf call, int... values) {
        boolean refused = true;
        for (int i = 0; i < values.length && refused; i++) {
            int value = values[i];
            refuses("" + value, Edge::busy, due, x -> call.on(x, value));
            refused = due.equals(thrown(busy(), x -> call.on(x, value)));
        }
    }

    private static void takesEach(CallOf call, int... values) {
        for (int value : values) {
            is("" + value, thrown(busy(), x -> call.on(x, value)), "no exception");
        }
    }

    /** On the busy desk there are the agents 0 to 2, and no others. */
    static void agents(CallOf call) {
        refusesEach(Check.INDEX, call, -1, 3, 32, LEAST, GREATEST);
        takesEach(call, 0, 2);
    }

    /** On the busy desk there are the ways 0 and 1, and no others. */
    static void ways(CallOf call) {
        refusesEach(Check.INDEX, call, -1, 2, 32, LEAST, GREATEST);
        takesEach(call, 0, 1);
    }

    /** On the busy desk agent 0 has the reports 0 and 1, and no others. */
    static void reports(CallOf call) {
        refusesEach(Check.INDEX, call, -1, 2, 36, LEAST, GREATEST);
        takesEach(call, 0, 1);
    }

    static void range(int from, int to, CallOf call) {
        refusesEach(Check.ARGUMENT, call, from - 1, to + 1, LEAST, GREATEST);
        takesEach(call, from, to);
    }

    /** Asking changes nothing. */
    static void asks(Call call) {
        PathTrust x = busy();
        call.on(x);
        is("asked", all(x), all(busy()));
    }

    /** A text that has this error at the mark |, which is taken out. */
    static void error(int code, String marked) {
        int position = marked.indexOf('|');
        error(code, marked.substring(0, position) + marked.substring(position + 1), position);
    }

    static void error(int code, String text, int position) {
        PathTrust x = new PathTrust();
        int answer = Check.load(x, text);
        is(text, answer + " " + x.errorCode() + " " + x.errorPosition(),
                PathTrust.PARSE_ERROR + " " + code + " " + position);
    }

    static PathTrust good(int agents, String text) {
        PathTrust x = new PathTrust();
        int answer = Check.load(x, text);
        is(text, answer + " " + x.errorCode() + " " + x.errorPosition(), agents + " 0 -1");
        return x;
    }

    /** All that can be seen of an object, which is used up by that: its undoing and its slots are seen last. */
    static String all(PathTrust x) {
        StringBuilder text = new StringBuilder(Check.state(x));
        text.append("\nthe agent in the input: ").append(x.findAgent());
        while (x.undoCount() > 0) {
            text.append("\nundo ").append(x.undo()).append(some(x));
        }
        for (int slot = 0; slot < 2; slot++) {
            int at = slot;
            Object answer = thrown(x, y -> y.restore(at));
            text.append("\nslot ").append(answer).append(some(x));
        }
        return text.toString();
    }

    private static String some(PathTrust x) {
        StringBuilder text = new StringBuilder(" desk");
        for (int what = 0; what < 10; what++) {
            text.append(' ').append(x.property(what));
        }
        for (int agent = 0; agent < x.property(0); agent++) {
            text.append(" list ").append(x.reports(agent)).append(" trust ").append(x.trust(agent, 1));
        }
        return text.toString();
    }
}
