import java.io.IOException;
import java.lang.reflect.Constructor;
import java.lang.reflect.Field;
import java.lang.reflect.Method;
import java.lang.reflect.Modifier;
import java.nio.file.Files;
import java.nio.file.Path;
import java.util.Arrays;
import java.util.Set;
import java.util.TreeSet;
import java.util.regex.Matcher;
import java.util.regex.Pattern;

/** The public face as the document writes it; LanguageTest looks at what is inside. */
public final class FaceTest {
    private static final Path DOC = Path.of("../shared/DOC.md");

    public static void main(String[] args) throws IOException {
        face();
        constants();
        maker();
        Check.finish("FaceTest");
    }

    private static void face() throws IOException {
        Set<String> due = new TreeSet<>();
        Matcher m = Pattern.compile("^    public (int \\w+\\(.*\\));$", Pattern.MULTILINE).matcher(Files.readString(DOC));
        while (m.find()) {
            due.add(m.group(1).replaceAll("(int|long) \\w+(?=[,)])", "$1"));
        }
        Set<String> found = new TreeSet<>();
        for (Method method : SameMan.class.getDeclaredMethods()) {
            if (method.getModifiers() == Modifier.PUBLIC) {
                String types = String.join(", ", Arrays.stream(method.getParameterTypes()).map(Class::getName).toList());
                found.add(method.getReturnType() + " " + method.getName() + "(" + types + ")");
            }
        }
        Check.due("methods of the face", due.size(), 41);
        Check.due("the face " + found, found.equals(due) ? 1 : 0, 1);
    }

    private static void constants() {
        Check.due("BAD", SameMan.BAD, -1);
        Check.due("STATE", SameMan.STATE, -2);
        Check.due("FULL", SameMan.FULL, -3);
        Check.due("NONE", SameMan.NONE, -4);
        int open = 0;
        for (Field field : SameMan.class.getDeclaredFields()) {
            open += Modifier.isPrivate(field.getModifiers()) ? 0 : 1;
        }
        Check.due("fields that are not private", open, 4);
    }

    private static void maker() {
        int flags = SameMan.class.getModifiers();
        Check.due("public", Modifier.isPublic(flags) ? 1 : 0, 1);
        Check.due("final", Modifier.isFinal(flags) ? 1 : 0, 1);
        Constructor<?>[] constructors = SameMan.class.getDeclaredConstructors();
        Check.due("constructors", constructors.length, 1);
        Check.due("its parameters", constructors[0].getParameterCount(), 0);
        Check.due("it is public", Modifier.isPublic(constructors[0].getModifiers()) ? 1 : 0, 1);
    }
}
