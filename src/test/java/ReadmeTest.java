import java.lang.reflect.Method;
import java.lang.reflect.Modifier;
import java.nio.file.Files;
import java.nio.file.Path;
import java.util.Set;
import java.util.TreeSet;
import java.util.regex.Matcher;
import java.util.regex.Pattern;
import java.util.stream.Stream;

/** README.md holds: its table of calls, the classes and tests that it names. Its example is run by ReadmeExample. */
public final class ReadmeTest {
    private static final Probe P = new Probe();
    /** A number by which no call has anything to answer. */
    private static final int NO_SUCH = -7;

    public static void main(String[] args) throws Exception {
        String page = Files.readString(Path.of("README.md"));
        calls(page);
        inside(page);
        tests(page);
        P.end("ReadmeTest");
    }

    private static void calls(String page) throws Exception {
        Set<String> told = new TreeSet<>();
        Matcher row = Pattern.compile("\\| `(\\w+)\\(([^)]*)\\)` \\|[^|]*\\| (\\S+) \\|").matcher(page);
        while (row.find()) {
            P.due("README tells twice of " + row.group(1), told.add(row.group(1)), true);
            call(row.group(1), row.group(2).split(", ").length, row.group(3));
        }
        P.due("calls of the face without a row in README", told.equals(face()), true);
    }

    private static Set<String> face() {
        Set<String> names = new TreeSet<>();
        for (Method m : BreadTalk.class.getDeclaredMethods()) {
            if (Modifier.isPublic(m.getModifiers())) {
                names.add(m.getName());
            }
        }
        return names;
    }

    private static void call(String name, int parameters, String otherwise) throws Exception {
        for (Method m : BreadTalk.class.getDeclaredMethods()) {
            if (m.getName().equals(name)) {
                P.due("README: parameters of " + name, parameters, m.getParameterCount());
                BreadTalk x = new BreadTalk();
                Object answer = m.invoke(x, wrong(m));
                for (int i = 0; i < 30 && name.equals("feed"); i++) {
                    answer = m.invoke(x, wrong(m));
                }
                P.due("README: " + name + " else " + answer, String.valueOf(answer).equals(otherwise), true);
            }
        }
    }

    private static Object[] wrong(Method m) {
        Object[] all = new Object[m.getParameterCount()];
        for (int i = 0; i < all.length; i++) {
            all[i] = m.getParameterTypes()[i] == boolean.class ? (Object) false : (Object) NO_SUCH;
        }
        return all;
    }

    private static void inside(String page) {
        for (Class<?> c : BreadTalk.class.getDeclaredClasses()) {
            P.due("README names " + c.getSimpleName(), page.contains("`" + c.getSimpleName() + "`"), true);
        }
    }

    private static void tests(String page) throws Exception {
        Set<String> there = new TreeSet<>();
        try (Stream<Path> files = Files.list(Path.of("src/test/java"))) {
            files.map(f -> f.getFileName().toString()).filter(f -> f.endsWith("Test.java")).forEach(f -> there.add(f.replace(".java", "")));
        }
        Set<String> named = new TreeSet<>();
        Matcher name = Pattern.compile("`(\\w+Test)`").matcher(page);
        while (name.find()) {
            named.add(name.group(1));
        }
        P.due("tests " + there + " as in README " + named, named.equals(there), true);
    }
}
