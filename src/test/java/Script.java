import java.lang.reflect.Method;
import java.util.HashMap;
import java.util.Map;

/** Calls written as words, so that the class and Plain can be brought to the same land. */
final class Script {
    /** A land with some of everything, each part unlike the others, and all of it unlike a new one. */
    private static final String[] SOME = {
        "tape law 1;fee 3;letter a 7;letter z 40;one plain ab 11 22;one dead c 33 44;one foreign mn 55 66;"
            + "one twin ab 77 88;list a bc nz;known 0 7;known 1 30;",
        "text", "keep 0", "letter 1 11", "law 0", "fee 5", "debt 0 50", "become 3 2", "wed 0 3", "keep 1",
        "letter 2 30", "wealth 2 9", "bear 1",
        "sheet 0 0 6", "lay 0 0 3", "lay 0 1 9", "lay 0 2 4", "lay 0 3 41", "lay 0 4 5", "lay 0 5 6",
        "sheet 1 1 4", "lay 1 0 300", "lay 1 1 5", "lay 1 2 1", "lay 1 3 2",
        "sheet 2 2 3", "lay 2 0 2", "lay 2 1 8", "lay 2 2 9", "read 2 2 1 2",
        "tape fee 0;", "text",
        "tape fee 8;one mute x 1 2;",
    };

    /** Everything that has a bound is full. */
    private static final String[] FULL = {
        "tape " + "one plain a 1 2;".repeat(4) + "one plain bc 3 4;".repeat(4) + "list a b c d e f;" + "known 0 1;".repeat(6),
        "text", "keep 0", "keep 1", "sheet 0 2 40", "sheet 1 1 40", "sheet 2 0 40", "sheet 3 2 40",
        "tape " + " ".repeat(313) + "fee 9 ;",
    };

    private static final Map<Class<?>, Map<String, Method>> METHODS = new HashMap<>();

    private Script() {
    }

    static <T> T some(T land) {
        return run(land, SOME);
    }

    static <T> T full(T land) {
        return run(land, FULL);
    }

    private static <T> T run(T land, String[] calls) {
        for (String call : calls) {
            if (call.startsWith("tape ")) {
                tape(land, call.substring(5));
            } else {
                String[] words = call.split(" ");
                Object[] arguments = new Object[words.length - 1];
                for (int i = 0; i < arguments.length; i++) {
                    arguments[i] = Integer.parseInt(words[i + 1]);
                }
                ask(land, words[0], arguments);
            }
        }
        return land;
    }

    /** Puts a text on the tape, which is empty. */
    static void tape(Object land, String text) {
        String padded = text + " ".repeat((8 - text.length() % 8) % 8);
        for (int i = 0; i < padded.length(); i += 8) {
            long v = 0;
            for (int j = i; j < i + 8; j++) {
                v = v << 8 | padded.charAt(j) & 0xff;
            }
            ask(land, "feed", v);
        }
        ask(land, "end", text.length());
    }

    static int ask(Object land, String name, Object... arguments) {
        try {
            return (int) methodsOf(land.getClass()).get(name).invoke(land, arguments);
        } catch (ReflectiveOperationException e) {
            throw new IllegalStateException(name, e);
        }
    }

    private static Map<String, Method> methodsOf(Class<?> of) {
        return METHODS.computeIfAbsent(of, c -> {
            Map<String, Method> methods = new HashMap<>();
            for (Method method : c.getDeclaredMethods()) {
                if (!java.lang.reflect.Modifier.isPrivate(method.getModifiers())) {
                    methods.put(method.getName(), method);
                }
            }
            return methods;
        });
    }
}
