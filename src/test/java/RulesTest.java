import java.lang.reflect.Field;
import java.lang.reflect.Method;
import java.lang.reflect.Modifier;
import java.nio.file.Files;
import java.nio.file.Path;
import java.util.HashSet;
import java.util.List;
import java.util.Set;
import java.util.TreeSet;
import java.util.regex.Matcher;
import java.util.regex.Pattern;

/** The rules of LANGUAGE.md that can be seen from outside or by a look at the words of the source. */
public final class RulesTest {
    private static final Probe P = new Probe();
    private static final String FACE = "feed/5 end/1 text/2 fault/1 town/2 mind/3 said/3 deed/3 stop/2 state/4 shares/3 feast/5 agree/2 "
        + "side/3 visits/3 sign/4 sales/5 rest/3 plate/3 fits/2 jury/4 bound/3 drawn/4 apart/3 factions/3 pivots/2 sway/4 count/1 image/1 again/1";

    public static void main(String[] args) throws Exception {
        face();
        inside();
        source(Files.readString(Path.of("src/main/java/BreadTalk.java")));
        P.end("RulesTest");
    }

    private static void face() {
        P.due("public and final", BreadTalk.class.getModifiers(), Modifier.PUBLIC | Modifier.FINAL);
        Set<String> shown = new TreeSet<>();
        Set<String> names = new HashSet<>();
        for (Method m : BreadTalk.class.getDeclaredMethods()) {
            if (!Modifier.isPrivate(m.getModifiers())) {
                shown.add(m.getName() + "/" + m.getParameterCount());
                names.add(m.getName());
            }
        }
        P.due("the face " + shown, shown.equals(new TreeSet<>(List.of(FACE.split(" ")))), true);
        for (Field f : BreadTalk.class.getDeclaredFields()) {
            P.due("field " + f.getName(), Modifier.isPrivate(f.getModifiers()), !f.getName().equals("NONE"));
        }
        for (Class<?> c : BreadTalk.class.getDeclaredClasses()) {
            for (Method m : c.getDeclaredMethods()) {
                P.due(c.getSimpleName() + "." + m.getName() + " has a name of the face", names.contains(m.getName()), false);
            }
        }
        for (Method m : BreadTalk.class.getDeclaredMethods()) {
            P.due("private " + m.getName(), Modifier.isPrivate(m.getModifiers()) && names.contains(m.getName()), false);
        }
    }

    private static void inside() {
        Class<?>[] classes = BreadTalk.class.getDeclaredClasses();
        P.due("at most twelve classes with the outer one", classes.length <= 11, true);
        for (Class<?> c : classes) {
            P.due(c + " is static", Modifier.isStatic(c.getModifiers()), true);
            int fields = 0;
            for (Field f : c.getDeclaredFields()) {
                if (Modifier.isStatic(f.getModifiers())) {
                    P.due(f + " is final", Modifier.isFinal(f.getModifiers()), true);
                } else {
                    fields++;
                }
            }
            P.due(c + " has at most twenty fields", fields <= 20, true);
            for (Method m : c.getDeclaredMethods()) {
                P.due(m + " has at most seven parameters", m.getParameterCount() <= 7, true);
            }
        }
    }

    private static void source(String text) {
        String bare = text.replaceAll("(?s)/\\*.*?\\*/", " ").replaceAll("//[^\n]*", " ");
        for (String word : List.of("throw", "throws", "try", "catch", "synchronized", "assert", "package", "protected", "interface", "native",
                "volatile", "Random", "Thread", "double", "float", "Exact", "Object", "hashCode", "Integer.MAX_VALUE")) {
            P.due("the word " + word, Pattern.compile("\\b" + Pattern.quote(word) + "\\b").matcher(bare).find(), false);
        }
        P.due("a lambda", bare.contains("->"), false);
        P.due("a method reference", bare.contains("::"), false);
        P.due("texts joined", Pattern.compile("\"\\s*\\+|\\+\\s*\"").matcher(bare).find(), false);
        Matcher imports = Pattern.compile("import ([^;]+);").matcher(bare);
        while (imports.find()) {
            P.due("import " + imports.group(1), imports.group(1).equals("java.util.Arrays"), true);
        }
        for (int i = 0; i < text.length(); i++) {
            char c = text.charAt(i);
            if (c > 126 || c < 32 && c != '\n') {
                P.due("sign " + (int) c + " at " + i, 1, 0);
            }
        }
        methodLengths(text.split("\n"));
    }

    /** A method ends with the brace that stands below its head. */
    private static void methodLengths(String[] lines) {
        Pattern head = Pattern.compile("^( {4}| {8})(?!private static final class)[a-zA-Z].*\\) \\{$");
        for (int i = 0; i < lines.length; i++) {
            Matcher m = head.matcher(lines[i]);
            if (m.find()) {
                int end = i;
                while (!lines[end].equals(m.group(1) + "}")) {
                    end++;
                }
                P.due("lines of " + lines[i].trim(), end - i + 1 <= 60, true);
            }
        }
    }
}
