import java.lang.reflect.Constructor;
import java.lang.reflect.Executable;
import java.lang.reflect.Field;
import java.lang.reflect.Method;
import java.lang.reflect.Modifier;
import java.nio.file.Files;
import java.nio.file.Path;
import java.util.ArrayList;
import java.util.Arrays;
import java.util.List;
import java.util.TreeSet;

/** The public face of the document, member by member, read from ../shared/DOC.md. */
public final class FaceTest {
    public static void main(String[] args) throws Exception {
        TreeSet<String> due = new TreeSet<>();
        String doc = Files.readString(Path.of(args.length > 0 ? args[0] : "../shared/DOC.md"));
        int from = doc.indexOf("public final class PathTrust {");
        for (String line : doc.substring(from, doc.indexOf("```", from)).split("\n")) {
            String text = line.trim();
            if (text.startsWith("public ") && text.endsWith(";")) {
                due.add(text.replaceAll(" ([a-z]+)(?=[,)])", ""));
            }
        }
        TreeSet<String> got = new TreeSet<>();
        for (Method m : PathTrust.class.getDeclaredMethods()) {
            if (!Modifier.isPrivate(m.getModifiers())) {
                got.add(modifiers(m.getModifiers()) + m.getReturnType() + " " + m.getName() + tail(m));
            }
        }
        for (Constructor<?> c : PathTrust.class.getDeclaredConstructors()) {
            got.add(modifiers(c.getModifiers()) + "PathTrust" + tail(c));
        }
        for (Field f : PathTrust.class.getDeclaredFields()) {
            if (!Modifier.isPrivate(f.getModifiers())) {
                got.add(modifiers(f.getModifiers()) + f.getType() + " " + f.getName() + " = " + f.get(null) + ";");
            }
        }
        Check.is("the face", got.toString(), due.toString());
        Check.is("members of the face", got.size(), 62);
        Check.is("public final", Modifier.toString(PathTrust.class.getModifiers()), "public final");
        noPrivateNamesake();
        Check.end("FaceTest");
    }

    private static void noPrivateNamesake() {
        List<String> faces = new ArrayList<>();
        for (Method m : PathTrust.class.getDeclaredMethods()) {
            if (Modifier.isPublic(m.getModifiers())) {
                faces.add(m.getName());
            }
        }
        List<Class<?>> classes = new ArrayList<>(Arrays.asList(PathTrust.class.getDeclaredClasses()));
        classes.add(PathTrust.class);
        for (Class<?> c : classes) {
            for (Method m : c.getDeclaredMethods()) {
                boolean namesake = !Modifier.isPublic(m.getModifiers()) && faces.contains(m.getName());
                Check.is(c + "." + m.getName() + " bears a name of the face", namesake, false);
            }
        }
    }

    private static String modifiers(int modifiers) {
        return Modifier.toString(modifiers) + " ";
    }

    private static String tail(Executable e) {
        StringBuilder text = new StringBuilder("(");
        for (Class<?> type : e.getParameterTypes()) {
            text.append(text.length() == 1 ? "" : ", ").append(type.getSimpleName());
        }
        text.append(")");
        for (Class<?> type : e.getExceptionTypes()) {
            text.append(text.indexOf("throws") < 0 ? " throws " : ", ").append(type.getSimpleName());
        }
        return text.append(";").toString();
    }
}
