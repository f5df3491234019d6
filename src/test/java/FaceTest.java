import java.io.IOException;
import java.lang.reflect.Constructor;
import java.lang.reflect.Executable;
import java.lang.reflect.Field;
import java.lang.reflect.Method;
import java.lang.reflect.Modifier;
import java.nio.file.Files;
import java.nio.file.Path;
import java.util.Set;
import java.util.TreeSet;
import java.util.regex.Matcher;
import java.util.regex.Pattern;

/** The document's face, and those rules of LANGUAGE.md that can be seen from the class and its text. */
public final class FaceTest {
    private static final String[] FACE = {
        "boolean equal(int, int) throws IllegalArgumentException",
        "boolean judge(int, int) throws IllegalArgumentException, IllegalStateException, UnsupportedOperationException",
        "int fault(int) throws IndexOutOfBoundsException",
        "int faults()",
        "int item(int, int, int) throws IllegalArgumentException, IllegalStateException",
        "int list(int, int, int) throws IllegalArgumentException, IllegalStateException",
        "int make(int) throws IllegalArgumentException, IllegalStateException",
        "int marks(int, int) throws IllegalArgumentException",
        "int number(int, int) throws IllegalArgumentException, IllegalStateException",
        "int push(int, int) throws IllegalArgumentException, IllegalStateException",
        "int schema() throws IllegalStateException",
        "int text(int) throws IllegalArgumentException, IllegalStateException",
        "int truth(boolean) throws IllegalStateException",
        "void bind(int, boolean, boolean) throws IllegalArgumentException",
        "void named(int, int, int, int) throws IllegalArgumentException",
        "void put(int, int, int) throws IllegalArgumentException",
        "void rule(int, int, int) throws IllegalArgumentException",
    };
    private static final String[] OUTSIDE = {"->", "::", "\\bfinally\\b", "\\bsynchronized\\b", "\\bassert\\b",
        "\\bdouble\\b", "\\bfloat\\b", "\\bprotected\\b", "\\bnew Object\\b", "\\bSystem\\.(?!arraycopy)", "\\bRandom\\b",
        "\\bThread\\b", "Exact\\(", "\\bHashMap\\b", "\\bequals\\(", "\\bhashCode\\(", "\\btoString\\(", "static \\{",
        "\\bpackage\\b", "[^\\x00-\\x7f]"};

    public static void main(String[] args) throws IOException {
        publicFace();
        classesInside();
        String source = Files.readString(Path.of("src/main/java/SchemaJudge.java"));
        words(source);
        methods(source);
        Check.end();
    }

    private static String types(Class<?>[] types) {
        StringBuilder b = new StringBuilder();
        for (Class<?> type : types) {
            b.append(b.length() == 0 ? "" : ", ").append(type.getSimpleName());
        }
        return b.toString();
    }

    private static void publicFace() {
        Set<String> face = new TreeSet<>();
        for (Method method : SchemaJudge.class.getDeclaredMethods()) {
            if (!Modifier.isPrivate(method.getModifiers())) {
                String thrown = types(method.getExceptionTypes());
                face.add(method.getReturnType().getSimpleName() + " " + method.getName() + "("
                    + types(method.getParameterTypes()) + ")" + (thrown.isEmpty() ? "" : " throws " + thrown));
                Check.due(method.getName() + " is public", Modifier.isPublic(method.getModifiers()), true);
                Check.due(method.getName() + " is of the object", Modifier.isStatic(method.getModifiers()), false);
            }
        }
        Check.due("the face", face, new TreeSet<>(Set.of(FACE)));
        Check.due("the class is public and final", SchemaJudge.class.getModifiers(), Modifier.PUBLIC | Modifier.FINAL);
        Constructor<?>[] constructors = SchemaJudge.class.getDeclaredConstructors();
        Check.due("one constructor", constructors.length, 1);
        Check.due("it is public", constructors[0].getModifiers(), Modifier.PUBLIC);
        Check.due("it takes nothing", constructors[0].getParameterCount(), 0);
    }

    private static void classesInside() {
        Set<String> publicNames = new TreeSet<>();
        for (Method method : SchemaJudge.class.getMethods()) {
            publicNames.add(method.getName());
        }
        fields(SchemaJudge.class);
        executables(SchemaJudge.class.getDeclaredMethods());
        Check.due("at most twelve classes", SchemaJudge.class.getDeclaredClasses().length < 12, true);
        for (Class<?> inside : SchemaJudge.class.getDeclaredClasses()) {
            Check.due(inside + " is static", Modifier.isStatic(inside.getModifiers()), true);
            Check.due(inside + " is not public", Modifier.isPublic(inside.getModifiers()), false);
            fields(inside);
            executables(inside.getDeclaredMethods());
            executables(inside.getDeclaredConstructors());
            for (Method method : inside.getDeclaredMethods()) {
                Check.due(method + " bears no public name", publicNames.contains(method.getName()), false);
            }
        }
        for (Method method : SchemaJudge.class.getDeclaredMethods()) {
            boolean hidden = Modifier.isPrivate(method.getModifiers());
            Check.due(method + " bears no public name", hidden && publicNames.contains(method.getName()), false);
        }
    }

    private static void fields(Class<?> type) {
        int own = 0;
        for (Field field : type.getDeclaredFields()) {
            boolean still = Modifier.isStatic(field.getModifiers());
            own += still ? 0 : 1;
            Check.due(field + " is final if static", !still || Modifier.isFinal(field.getModifiers()), true);
            boolean hidden = Modifier.isPrivate(field.getModifiers());
            Check.due(field + " is hidden", hidden || type != SchemaJudge.class, true);
        }
        Check.due(type + " has at most twenty fields", own <= 20, true);
    }

    private static void executables(Executable[] executables) {
        for (Executable executable : executables) {
            Check.due(executable + " takes at most seven", executable.getParameterCount() <= 7, true);
        }
    }

    private static void words(String source) {
        String code = source.replaceAll("(?s)/\\*.*?\\*/", "").replaceAll("//[^\n]*", "");
        for (String outside : OUTSIDE) {
            Matcher found = Pattern.compile(outside).matcher(code);
            Check.due("outside the language: " + outside, found.find(), false);
        }
        Matcher imports = Pattern.compile("import ([^;]*);").matcher(code);
        while (imports.find()) {
            Check.due("import", imports.group(1), "java.util.Arrays");
        }
        Matcher thrown = Pattern.compile("throw ([^;]*);").matcher(code);
        while (thrown.find()) {
            boolean plain = thrown.group(1).matches("new \\w+(Exception)\\((\"[^\"]*\")?\\)");
            Check.due("throw " + thrown.group(1), plain, true);
        }
    }

    /** Methods stay short: from the line that opens one to the line that closes it. */
    private static void methods(String source) {
        String[] lines = source.split("\n");
        for (String indent : new String[] {"    ", "        "}) {
            int start = -1;
            for (int i = 0; i < lines.length; i++) {
                if (lines[i].matches(indent + "[a-z].*\\(.*") && !lines[i].endsWith(";")) {
                    start = i;
                }
                if (lines[i].equals(indent + "}") && start >= 0) {
                    Check.due("lines of " + lines[start].trim(), i - start < 60, true);
                    start = -1;
                }
            }
        }
    }
}
