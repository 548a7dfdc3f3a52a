import java.lang.reflect.Method;
import java.util.ArrayList;
import java.util.List;
import java.util.TreeMap;

/** Each promise has tests of its edges, and no two of them bear the same name. */
public final class EdgeListTest {
    private static final Class<?>[] EDGES = {InputEdgeTest.class, TextEdgeTest.class, AgentsEdgeTest.class,
        BeliefEdgeTest.class, ForecastEdgeTest.class, ChangeEdgeTest.class, UndoEdgeTest.class, OutputEdgeTest.class};

    public static void main(String[] args) {
        TreeMap<Integer, List<String>> found = new TreeMap<>();
        List<String> names = new ArrayList<>();
        for (Class<?> type : EDGES) {
            for (Method m : Edge.tests(type)) {
                Check.is(m.getName() + " is there already", names.contains(m.getName()), false);
                names.add(m.getName());
                int promise = Integer.parseInt(m.getName().substring(7, 9));
                found.computeIfAbsent(promise, p -> new ArrayList<>()).add(m.getName());
            }
        }
        for (int promise = 1; promise <= 60; promise++) {
            Check.is("promise " + promise + " has tests of its edges", found.containsKey(promise), true);
        }
        Check.is("promises", found.size(), 60);
        if (args.length > 0) {
            found.forEach((promise, tests) -> System.out.println(promise + " " + tests));
        }
        System.out.println(names.size() + " tests of edges");
        Check.end("EdgeListTest");
    }
}
