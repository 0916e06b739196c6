import java.io.IOException;
import java.nio.file.Files;
import java.nio.file.Path;
import java.util.Set;
import java.util.TreeSet;
import java.util.regex.Matcher;
import java.util.regex.Pattern;

/**
 * What README.md says is so: its Java is compiled and run, each answer that stands behind a call is compared, and
 * its table of tests names those that there are. It runs in the project's directory.
 */
public final class ReadmeTest {
    private static final Pattern BLOCK = Pattern.compile("(?ms)^```java\n(.*?)^```$");
    private static final Pattern CALL = Pattern.compile("((?:x\\.\\w+|text)\\(.*\\)); +// (\".*\"|-?\\d+|[A-Z]+)(?::.*)?");
    private static final Pattern LISTED = Pattern.compile("(?m)^\\| `(\\w+Test)` \\| \\S");
    private static final Set<String> CALLS = Set.of("feed", "cut", "read", "fault", "about", "node", "nested", "flat",
        "meter", "shown", "byteAt", "alike");
    private static final String MADE = "ReadmeCode";

    private static int answers;

    public static void main(String[] args) throws Exception {
        String readme = Files.readString(Path.of("README.md"));
        if (compile(source(readme))) {
            Class.forName(MADE).getDeclaredMethod("run").invoke(null);
        }
        Check.due("answers are told", answers > 40 ? 1 : 0, 1);
        calls(readme);
        answersBelowZero(readme);
        tests(readme);
        Check.end();
    }

    /** A class of all blocks: those of methods as they are, the others as a method each. */
    private static String source(String readme) {
        StringBuilder methods = new StringBuilder("final class " + MADE + " {\n");
        StringBuilder run = new StringBuilder("static void run() {\n");
        Matcher block = BLOCK.matcher(readme);
        for (int i = 0; block.find(); i++) {
            if (block.group(1).startsWith("static ")) {
                methods.append(block.group(1));
            } else {
                methods.append("static void block").append(i).append("() {\n").append(compared(block.group(1))).append("}\n");
                run.append("block").append(i).append("();\n");
            }
        }
        return methods.append(run).append("}\n}\n").toString();
    }

    private static String compared(String block) {
        StringBuilder sb = new StringBuilder();
        for (String line : block.split("\n")) {
            Matcher m = CALL.matcher(line);
            if (m.matches()) {
                answers++;
                String due = m.group(2).matches("[A-Z]+") ? "NestedVectors." + m.group(2) : m.group(2);
                sb.append("Check.due(\"").append(m.group(1)).append(" of README.md\", ");
                sb.append(m.group(1)).append(", ").append(due).append(");\n");
            } else {
                boolean plain = line.isEmpty() || line.startsWith("feed(x, ") || line.startsWith("NestedVectors x = ");
                Check.due("a line without an answer: " + line, plain ? 1 : 0, 1);
                sb.append(line).append('\n');
            }
        }
        return sb.toString();
    }

    /** The class comes to where the tests' classes are, so that it finds them and is found. */
    private static boolean compile(String source) throws IOException, InterruptedException {
        Path classes = Path.of(System.getProperty("java.class.path"));
        Path file = classes.resolve(MADE + ".java");
        Files.writeString(file, source);
        ProcessBuilder javac = new ProcessBuilder("javac", "-d", classes.toString(), "-cp", classes.toString(), file.toString());
        int code = javac.inheritIO().start().waitFor();
        Check.due("javac of the Java in README.md", code, 0);
        return code == 0;
    }

    /** The sessions show every call of the face. */
    private static void calls(String readme) {
        for (String call : CALLS) {
            Check.due("README.md shows " + call, readme.contains("x." + call + "(") ? 1 : 0, 1);
        }
    }

    private static void answersBelowZero(String readme) {
        Check.due("NONE", row(readme, "NONE", NestedVectors.NONE), 1);
        Check.due("BAD", row(readme, "BAD", NestedVectors.BAD), 1);
        Check.due("FULL", row(readme, "FULL", NestedVectors.FULL), 1);
        Check.due("STATE", row(readme, "STATE", NestedVectors.STATE), 1);
    }

    private static int row(String readme, String name, int value) {
        return readme.contains("\n| `" + name + "` (" + value + ") | ") ? 1 : 0;
    }

    private static void tests(String readme) throws IOException {
        Set<String> listed = new TreeSet<>();
        Matcher m = LISTED.matcher(readme);
        while (m.find()) {
            listed.add(m.group(1));
        }
        Set<String> there = new TreeSet<>();
        try (var files = Files.list(Path.of("src/test/java"))) {
            files.map(f -> f.getFileName().toString()).filter(f -> f.endsWith("Test.java"))
                .forEach(f -> there.add(f.substring(0, f.length() - 5)));
        }
        Check.due("the tests that README.md lists", listed.toString(), there.toString());
    }
}
