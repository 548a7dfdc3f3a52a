import java.nio.file.Files;
import java.nio.file.Path;
import java.util.ArrayList;
import java.util.List;
import java.util.TreeSet;
import java.util.regex.Matcher;
import java.util.regex.Pattern;

/** The rules of ../shared/LANGUAGE.md that the text of the program shows by its words alone. */
public final class LanguageTest {
    private static final Pattern METHOD = Pattern.compile(
            "(?m)^ {4,8}(?:public|private)(?: static)? (?!static|final|abstract|class)[\\w\\[\\]]+ (\\w+)\\(([^)]*)\\)");

    public static void main(String[] args) throws Exception {
        String file = Files.readString(Path.of(args.length > 0 ? args[0] : "src/main/java/PathTrust.java"));
        String text = file.replaceAll("\"[^\"\n]*\"", "\"\"").replaceAll("//[^\n]*", "")
                .replaceAll("(?s)/\\*.*?\\*/", "");
        Check.is("rule 3: signs", file.chars().allMatch(c -> c == '\n' || c >= 32 && c < 127), true);
        Check.is("rule 4: imports", found(text, "(?m)^import .*;").toString(),
                "[import java.util.Arrays;, import java.util.NoSuchElementException;]");
        Check.is("rule 4: library", found(text, "\\b(?:Math|Arrays|Integer|Long|System)\\.\\w+").toString(),
                "[Arrays.fill, Integer.bitCount, Math.max, Math.min, System.arraycopy]");
        String[] none = {"->", "::", "\\b(?:try|catch|finally|synchronized|assert|volatile|var|native|yield)\\b",
            "\\b(?:hashCode|toString|equals|getClass|Object|Thread|Random)\\b", "\"\" *\\+", "\\+ *\"\"", "@\\w+"};
        for (String pattern : none) {
            Check.is("rules 2, 6, 10 and 13: " + pattern, found(text, pattern).toString(), "[]");
        }
        Check.is("rule 5: static fields are final", found(text, "(?m)^.*static (?!final)[^(\n]*[;=].*$").toString(), "[]");
        Check.is("rule 6: exceptions", found(text, "throw new \\w+").toString(),
                "[throw new IllegalArgumentException, throw new IllegalStateException, "
                + "throw new IndexOutOfBoundsException, throw new NoSuchElementException]");
        Check.is("rule 11: classes", text.split("\\bclass \\w").length - 1 <= 12, true);
        methods(text);
        Check.end("LanguageTest");
    }

    private static TreeSet<String> found(String text, String pattern) {
        TreeSet<String> found = new TreeSet<>();
        Matcher m = Pattern.compile(pattern).matcher(text);
        while (m.find()) {
            found.add(m.group());
        }
        return found;
    }

    /** Rules 8 and 11: no recursion, at most eight calls deep, few parameters, short methods. */
    private static void methods(String text) {
        List<String> names = new ArrayList<>();
        List<String> bodies = new ArrayList<>();
        Matcher m = METHOD.matcher(text);
        while (m.find()) {
            String indent = text.substring(text.lastIndexOf('\n', m.start()) + 1).replaceAll("\\S(?s:.*)", "");
            String body = text.substring(m.end(), text.indexOf("\n" + indent + "}", m.end()));
            names.add(m.group(1));
            bodies.add(body);
            Check.is("rule 11: parameters of " + m.group(1), m.group(2).split(",").length <= 7, true);
            Check.is("rule 11: lines of " + m.group(1), body.split("\n").length <= 60, true);
        }
        Check.is("methods are found", names.size() > 100, true);
        for (int i = 0; i < names.size(); i++) {
            int depth = depth(i, names, bodies, 1);
            Check.is("rule 11: calls under " + names.get(i) + ", " + depth + " deep", depth <= 8, true);
        }
    }

    /** Methods of one name count as one, the deepest of them. */
    private static int depth(int method, List<String> names, List<String> bodies, int level) {
        int deepest = level;
        for (int i = 0; i < names.size() && level < 20; i++) {
            if (Pattern.compile("\\b" + names.get(i) + "\\(").matcher(bodies.get(method)).find()) {
                deepest = Math.max(deepest, depth(i, names, bodies, level + 1));
            }
        }
        return deepest;
    }
}
