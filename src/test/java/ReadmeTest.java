import java.io.IOException;
import java.net.URL;
import java.net.URLClassLoader;
import java.nio.file.Files;
import java.nio.file.Path;
import java.util.ArrayList;
import java.util.HashSet;
import java.util.List;
import java.util.Set;
import java.util.regex.Matcher;
import java.util.regex.Pattern;
import javax.tools.JavaCompiler;
import javax.tools.ToolProvider;

/** The example of README.md: that it compiles, and that each comment that tells an answer is true. */
public final class ReadmeTest {
    private static final Pattern BLOCK = Pattern.compile("(?s)```java\n(.*?)```");
    private static final Pattern ANSWERED = Pattern.compile("(?:(\\w+ \\w+) = )?(x\\..*?); +// => (-?\\w+)(,.*)?");
    private static final Pattern REFUSED = Pattern.compile("(x\\..*?); +// throws (\\w+)(:.*)?");
    private static final Pattern CALLED = Pattern.compile("\\bx\\.(\\w+)\\(");
    private static final int MOST_CALLS = 512;

    public static void main(String[] args) throws Exception {
        List<String> lines = exampleLines(Files.readString(Path.of("README.md")));
        Check.due("lines of the example are told apart", unreadLines(lines), List.of());
        Check.due("methods that the example does not call", uncalledMethods(lines), Set.of());
        Check.due("no more calls than an object has", lines.size() <= MOST_CALLS, true);
        for (String[] told : run(lines)) {
            Check.due(told[0], told[1], told[2]);
        }
        Check.end();
    }

    private static List<String> exampleLines(String readme) {
        List<String> lines = new ArrayList<>();
        Matcher block = BLOCK.matcher(readme);
        while (block.find()) {
            lines.addAll(block.group(1).lines().toList());
        }
        return lines;
    }

    /** Lines that look as if they told an answer, but not in the form that is checked. */
    private static List<String> unreadLines(List<String> lines) {
        List<String> unread = new ArrayList<>();
        for (String line : lines) {
            boolean tells = line.contains("=>") || line.contains("// throws");
            if (tells && !ANSWERED.matcher(line).matches() && !REFUSED.matcher(line).matches()) {
                unread.add(line);
            }
        }
        return unread;
    }

    private static Set<String> uncalledMethods(List<String> lines) {
        Set<String> names = new HashSet<>();
        for (java.lang.reflect.Method method : SchemaJudge.class.getMethods()) {
            if (method.getDeclaringClass() == SchemaJudge.class) {
                names.add(method.getName());
            }
        }
        for (String line : lines) {
            Matcher called = CALLED.matcher(line);
            while (called.find()) {
                names.remove(called.group(1));
            }
        }
        return names;
    }

    /** A line of the example as it is run: what it answers is kept beside what the comment says of it. */
    private static String checked(String line) {
        Matcher answered = ANSWERED.matcher(line);
        if (answered.matches()) {
            String call = answered.group(2);
            if (answered.group(1) == null) {
                return told(call, call, answered.group(3));
            }
            String name = answered.group(1).split(" ")[1];
            return answered.group(1) + " = " + call + "; " + told(call, name, answered.group(3));
        }
        Matcher refused = REFUSED.matcher(line);
        if (refused.matches()) {
            String call = refused.group(1);
            return "try { " + call + "; " + told(call, "\"nothing thrown\"", refused.group(2))
                + " } catch (RuntimeException e) { " + told(call, "e.getClass().getSimpleName()", refused.group(2)) + " }";
        }
        return line;
    }

    private static String told(String call, String got, String want) {
        return "told.add(new String[] {\"" + call + "\", String.valueOf(" + got + "), \"" + want + "\"});";
    }

    private static String program(List<String> lines) {
        StringBuilder b = new StringBuilder();
        b.append("public final class ReadmeExample implements java.util.function.Supplier<java.util.List<String[]>> {\n");
        b.append("public java.util.List<String[]> get() {\n");
        b.append("java.util.List<String[]> told = new java.util.ArrayList<>();\n");
        for (String line : lines) {
            b.append(checked(line)).append('\n');
        }
        return b.append("return told;\n}\n}\n").toString();
    }

    /** Compiles and runs the example: for each line that tells an answer, the call, what it answered, and what is told. */
    private static List<String[]> run(List<String> lines) throws Exception {
        Path folder = Files.createTempDirectory("readme");
        Path file = folder.resolve("ReadmeExample.java");
        Path compiled = folder.resolve("ReadmeExample.class");
        try {
            Files.writeString(file, program(lines));
            JavaCompiler compiler = ToolProvider.getSystemJavaCompiler();
            String classes = System.getProperty("java.class.path");
            int code = compiler.run(null, null, null, "-cp", classes, "-d", folder.toString(), file.toString());
            Check.due("the example compiles: exit code", code, 0);
            return code == 0 ? answersOf(folder) : List.of();
        } finally {
            Files.deleteIfExists(compiled);
            Files.deleteIfExists(file);
            Files.deleteIfExists(folder);
        }
    }

    private static List<String[]> answersOf(Path folder) throws ReflectiveOperationException, IOException {
        List<String[]> answers = new ArrayList<>();
        try (URLClassLoader loader = new URLClassLoader(new URL[] {folder.toUri().toURL()})) {
            Object example = loader.loadClass("ReadmeExample").getDeclaredConstructor().newInstance();
            if (example instanceof java.util.function.Supplier<?> supplier && supplier.get() instanceof List<?> list) {
                for (Object told : list) {
                    answers.add((String[]) told);
                }
            }
        }
        Check.due("answers are told", answers.isEmpty(), false);
        return answers;
    }
}
