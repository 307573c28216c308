import java.io.IOException;
import java.lang.reflect.Constructor;
import java.lang.reflect.Field;
import java.lang.reflect.Method;
import java.lang.reflect.Modifier;
import java.nio.file.Files;
import java.nio.file.Path;
import java.util.Arrays;
import java.util.Set;
import java.util.TreeSet;
import java.util.regex.Matcher;
import java.util.regex.Pattern;

/** The public face as the document writes it, and those rules of LANGUAGE.md that can be read off the class. */
public final class FaceTest {
    private static final Path DOC = Path.of("../shared/DOC.md");
    private static final Path SOURCE = Path.of("src/main/java/SameMan.java");

    public static void main(String[] args) throws IOException {
        face();
        constants();
        hidden();
        language();
        Check.finish("FaceTest");
    }

    private static void face() throws IOException {
        Set<String> due = new TreeSet<>();
        Matcher m = Pattern.compile("^    public (int \\w+\\(.*\\));$", Pattern.MULTILINE).matcher(Files.readString(DOC));
        while (m.find()) {
            due.add(m.group(1).replaceAll("(int|long) \\w+(?=[,)])", "$1"));
        }
        Set<String> found = new TreeSet<>();
        for (Method method : SameMan.class.getDeclaredMethods()) {
            if (Modifier.isPublic(method.getModifiers())) {
                String types = String.join(", ", Arrays.stream(method.getParameterTypes()).map(Class::getName).toList());
                found.add(method.getReturnType() + " " + method.getName() + "(" + types + ")");
            }
        }
        Check.due("methods of the face", due.size(), 41);
        Check.due("the face " + found, found.equals(due) ? 1 : 0, 1);
    }

    private static void constants() {
        Check.due("BAD", SameMan.BAD, -1);
        Check.due("STATE", SameMan.STATE, -2);
        Check.due("FULL", SameMan.FULL, -3);
        Check.due("NONE", SameMan.NONE, -4);
        int open = 0;
        for (Field field : SameMan.class.getDeclaredFields()) {
            open += Modifier.isPrivate(field.getModifiers()) ? 0 : 1;
        }
        Check.due("fields that are not private", open, 4);
    }

    private static void hidden() {
        int class17 = SameMan.class.getModifiers();
        Check.due("public", Modifier.isPublic(class17) ? 1 : 0, 1);
        Check.due("final", Modifier.isFinal(class17) ? 1 : 0, 1);
        Constructor<?>[] constructors = SameMan.class.getDeclaredConstructors();
        Check.due("constructors", constructors.length, 1);
        Check.due("its parameters", constructors[0].getParameterCount(), 0);
        Set<String> open = new TreeSet<>();
        for (Method method : SameMan.class.getMethods()) {
            if (method.getDeclaringClass() == SameMan.class) {
                open.add(method.getName());
            }
        }
        for (Method method : SameMan.class.getDeclaredMethods()) {
            boolean isPublic = Modifier.isPublic(method.getModifiers());
            Check.due(method + " is public or private", isPublic || Modifier.isPrivate(method.getModifiers()) ? 1 : 0, 1);
            Check.due(method + " has a public name", !isPublic && open.contains(method.getName()) ? 1 : 0, 0);
        }
        Class<?>[] inside = SameMan.class.getDeclaredClasses();
        Check.due("at most twelve classes", inside.length < 12 ? 1 : 0, 1);
        for (Class<?> one : inside) {
            Check.due(one + " is static", Modifier.isStatic(one.getModifiers()) ? 1 : 0, 1);
            for (Method method : one.getDeclaredMethods()) {
                Check.due(method + " has a public name", open.contains(method.getName()) ? 1 : 0, 0);
                Check.due(method + " takes at most seven", method.getParameterCount() <= 7 ? 1 : 0, 1);
            }
            int fields = 0;
            for (Field field : one.getDeclaredFields()) {
                fields += Modifier.isStatic(field.getModifiers()) ? 0 : 1;
                boolean constant = !Modifier.isStatic(field.getModifiers()) || Modifier.isFinal(field.getModifiers());
                Check.due(field + " is no static state", constant ? 1 : 0, 1);
            }
            Check.due(one + " has at most twenty fields", fields <= 20 ? 1 : 0, 1);
        }
    }

    private static void language() throws IOException {
        String code = Files.readString(SOURCE)
                .replaceAll("(?s)/\\*.*?\\*/", " ")
                .replaceAll("//[^\n]*", " ")
                .replaceAll("\"[^\"]*\"", "\"\"");
        String[] words = {"throw", "throws", "try", "catch", "finally", "synchronized", "assert", "package", "import",
            "Object", "System", "Thread", "equals", "hashCode", "toString", "volatile", "native"};
        for (String word : words) {
            Check.due("'" + word + "' in the source", Pattern.compile("\\b" + word + "\\b").matcher(code).find() ? 1 : 0, 0);
        }
        String[] signs = {"->", "::", "static {", "\"\" +", "+ \"\""};
        for (String sign : signs) {
            Check.due("'" + sign + "' in the source", code.contains(sign) ? 1 : 0, 0);
        }
    }
}
