import java.nio.file.Files;
import java.nio.file.Path;
import java.util.ArrayList;
import java.util.List;
import java.util.regex.Matcher;
import java.util.regex.Pattern;

/** Prints README.md's Java as a class Example, each answer told behind a line being asked for; .ci/run compiles and runs it. */
public final class ReadmeExample {
    private static final Pattern ANSWERED = Pattern.compile("(?:int (\\w+) = )?(.*); // (-?\\d+)\\b.*", Pattern.DOTALL);

    public static void main(String[] args) throws Exception {
        List<String> blocks = blocks(Files.readString(Path.of("README.md")));
        if (blocks.size() != 2) {
            System.err.println("README.md has " + blocks.size() + " Java blocks, due are 2");
            System.exit(1);
        }
        System.out.println("public final class Example {");
        System.out.println(blocks.get(0).trim());
        System.out.println("static int asked = 0;\nstatic int wrong = 0;");
        System.out.println("static void due(String call, long got, long want) {\nasked++;\nif (got != want) {\nwrong++;");
        System.out.println("System.out.println(\"README: \" + call + \" answered \" + got + \", README says \" + want);\n}\n}");
        System.out.println("public static void main(String[] args) {");
        statements(blocks.get(1));
        System.out.println("System.out.println(\"README: \" + asked + \" answers, \" + wrong + \" not as told\");");
        System.out.println("if (wrong != 0) {\nSystem.exit(1);\n}\n}\n}");
    }

    private static List<String> blocks(String page) {
        List<String> all = new ArrayList<>();
        Matcher block = Pattern.compile("```java\n(.*?)```", Pattern.DOTALL).matcher(page);
        while (block.find()) {
            all.add(block.group(1));
        }
        return all;
    }

    /** A statement ends with the line that has a semicolon outside its texts. */
    private static void statements(String block) {
        StringBuilder open = new StringBuilder();
        for (String line : block.split("\n")) {
            open.append(open.length() > 0 ? "\n" : "").append(line);
            if (line.replaceAll("\"[^\"]*\"", "").contains(";")) {
                statement(open.toString());
                open.setLength(0);
            }
        }
    }

    private static void statement(String text) {
        Matcher answered = ANSWERED.matcher(text);
        if (!answered.matches()) {
            System.out.println(text);
            return;
        }
        String call = answered.group(2);
        String name = answered.group(1);
        System.out.println(name == null ? "" : "int " + name + " = " + call + ";");
        String shown = call.replaceAll("\\s+", " ").replace("\"", "'");
        System.out.println("due(\"" + shown + "\", " + (name == null ? call : name) + ", " + answered.group(3) + ");");
    }
}
