import java.io.IOException;
import java.lang.reflect.Array;
import java.lang.reflect.Constructor;
import java.lang.reflect.Field;
import java.lang.reflect.Method;
import java.lang.reflect.Modifier;
import java.nio.file.Files;
import java.nio.file.Path;
import java.util.Collections;
import java.util.IdentityHashMap;
import java.util.Set;
import java.util.TreeSet;
import java.util.regex.Matcher;
import java.util.regex.Pattern;

/** The public face, and those rules of LANGUAGE.md that a test can see. It runs in the project's directory. */
public final class RulesTest {
    private static final Set<String> FACE = Set.of("feed(long)", "cut(int)", "read()", "fault()", "about(int)",
        "node(int,int)", "nested()", "flat()", "meter(int)", "shown(boolean)", "byteAt(boolean,int)", "alike()");
    private static final Path SOURCE = Path.of("src/main/java/NestedVectors.java");
    private static final Pattern METHOD = Pattern.compile("(?m)^( {4,8})(\\w[^=;\n]*?)(\\w+)\\([^\n]*\\) \\{$");
    private static final String[] FORBIDDEN = {"throw", "try", "catch", "finally", "synchronized", "assert", "->", "::",
        "lambda", "Exact", "import", "volatile", "native", "double", "float", "\"+", "+\"", "\" +", "+ \"", "hashCode",
        "toString", "System", "Thread", "Object", "while (true)", "for (;;)"};

    public static void main(String[] args) throws IOException {
        face();
        classesInside();
        source();
        recursion();
        room();
        Check.end();
    }

    private static String signature(Method m) {
        StringBuilder sb = new StringBuilder(m.getName()).append('(');
        String mark = "";
        for (Class<?> c : m.getParameterTypes()) {
            sb.append(mark).append(c.getSimpleName());
            mark = ",";
        }
        return sb.append(')').toString();
    }

    private static void face() {
        Class<?> c = NestedVectors.class;
        Check.due("public final", c.getModifiers() & (Modifier.PUBLIC | Modifier.FINAL), Modifier.PUBLIC | Modifier.FINAL);
        Set<String> seen = new TreeSet<>();
        for (Method m : c.getDeclaredMethods()) {
            if (Modifier.isPublic(m.getModifiers())) {
                seen.add(signature(m));
                Check.due("answer of " + m.getName(), m.getReturnType().getName(), "int");
                Check.due(m.getName() + " is of an object", Modifier.isStatic(m.getModifiers()) ? 1 : 0, 0);
            } else {
                Check.due("private " + m.getName(), Modifier.isPrivate(m.getModifiers()) ? 1 : 0, 1);
            }
        }
        Check.due("the methods", seen.toString(), new TreeSet<>(FACE).toString());
        for (Field f : c.getDeclaredFields()) {
            boolean constant = Set.of("NONE", "BAD", "FULL", "STATE").contains(f.getName());
            Check.due("field " + f.getName(), Modifier.isPublic(f.getModifiers()) == constant ? 1 : 0, 1);
            Check.due("field " + f.getName(), constant || Modifier.isPrivate(f.getModifiers()) ? 1 : 0, 1);
        }
        Constructor<?>[] made = c.getDeclaredConstructors();
        Check.due("one constructor", made.length, 1);
        Check.due("a public one", Modifier.isPublic(made[0].getModifiers()) ? 1 : 0, 1);
    }

    private static void classesInside() {
        Class<?>[] inside = NestedVectors.class.getDeclaredClasses();
        Check.due("no more than twelve classes", inside.length < 12 ? 1 : 0, 1);
        for (Class<?> c : inside) {
            Check.due(c.getName() + " is static", Modifier.isStatic(c.getModifiers()) ? 1 : 0, 1);
            int fields = 0;
            for (Field f : c.getDeclaredFields()) {
                fields += Modifier.isStatic(f.getModifiers()) ? 0 : 1;
                boolean still = !Modifier.isStatic(f.getModifiers()) || Modifier.isFinal(f.getModifiers());
                Check.due("static " + f.getName() + " is final", still ? 1 : 0, 1);
            }
            Check.due("fields of " + c.getName() + ": " + fields, fields <= 20 ? 1 : 0, 1);
            for (Method m : c.getDeclaredMethods()) {
                for (String told : FACE) {
                    Check.due(m.getName() + " has a name of the face", told.startsWith(m.getName() + "(") ? 1 : 0, 0);
                }
                Check.due("parameters of " + m.getName(), m.getParameterCount() <= 7 ? 1 : 0, 1);
            }
        }
    }

    private static String code(String text) {
        return text.replaceAll("(?s)/\\*.*?\\*/", "").replaceAll("//[^\n]*", "");
    }

    private static void source() throws IOException {
        String text = Files.readString(SOURCE);
        String code = code(text);
        for (String word : FORBIDDEN) {
            boolean plain = word.matches("[A-Za-z]+");
            boolean found = plain ? code.matches("(?s).*\\b" + word + "\\b.*") : code.contains(word);
            Check.due("the source has " + word, found ? 1 : 0, 0);
        }
        Check.due("characters above 127", text.chars().filter(c -> c > 127).count(), 0);
        int length = 0;
        for (String line : text.split("\n")) {
            boolean begins = line.matches("        \\S.*\\{|    \\S.*\\) \\{");
            length = begins ? 0 : length + 1;
            boolean ends = line.equals("        }") || line.equals("    }");
            Check.due("a method of " + length + " lines", ends && length > 60 ? length : 0, 0);
            length = ends ? 0 : length;
        }
    }

    /** Rule 8: a method that calls itself is a private one. */
    private static void recursion() throws IOException {
        String code = code(Files.readString(SOURCE));
        Matcher m = METHOD.matcher(code);
        int calling = 0;
        while (m.find()) {
            String body = code.substring(m.end(), code.indexOf("\n" + m.group(1) + "}", m.end()));
            if (Pattern.compile("(?<![.\\w])" + m.group(3) + "\\(").matcher(body).find()) {
                calling++;
                Check.due(m.group(3) + " calls itself and is private", m.group(2).startsWith("private") ? 1 : 0, 1);
            }
        }
        Check.due("methods that call themselves were seen", calling > 0 ? 1 : 0, 1);
    }

    /** What one object has stays small: some dozens of them fit into the room of a run. */
    private static void room() {
        NestedVectors x = Check.program("{sum(iota(n)):n in iota(9)|n}");
        Set<Object> before = parts(x);
        long cells = 0;
        for (Object o : before) {
            cells += o.getClass().isArray() ? Array.getLength(o) : 20;
        }
        Check.due("objects of one: " + before.size(), before.size() < 150 ? 1 : 0, 1);
        Check.due("fields and elements of one: " + cells, cells < 150000 ? 1 : 0, 1);
        x.nested();
        x.flat();
        Check.due("objects behind the runs", parts(x).size(), before.size());
    }

    private static Set<Object> parts(Object o) {
        Set<Object> seen = Collections.newSetFromMap(new IdentityHashMap<>());
        collect(o, seen);
        return seen;
    }

    private static void collect(Object o, Set<Object> seen) {
        if (o == null || !seen.add(o) || o.getClass().isArray()) {
            return;
        }
        for (Class<?> c = o.getClass(); c != null && c != Object.class; c = c.getSuperclass()) {
            for (Field f : c.getDeclaredFields()) {
                if (!Modifier.isStatic(f.getModifiers()) && !f.getType().isPrimitive()) {
                    f.setAccessible(true);
                    try {
                        collect(f.get(o), seen);
                    } catch (IllegalAccessException e) {
                        Check.due("to see " + f.getName(), 0, 1);
                    }
                }
            }
        }
    }
}
