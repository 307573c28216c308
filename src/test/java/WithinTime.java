import java.lang.reflect.InvocationTargetException;
import java.lang.reflect.Method;

/** Runs the main of a test, which fails if it does not come to an end: a call that never ends is a fault, too. */
public final class WithinTime {
    private static final int SECONDS = 120;

    private WithinTime() {
    }

    public static void main(String[] args) throws ReflectiveOperationException {
        watch(args[0]);
        Method main = Class.forName(args[0]).getDeclaredMethod("main", String[].class);
        main.setAccessible(true);
        try {
            main.invoke(null, (Object) new String[0]);
        } catch (InvocationTargetException e) {
            e.getCause().printStackTrace();
            System.exit(1);
        }
    }

    private static void watch(String test) {
        Thread watch = new Thread(() -> {
            try {
                Thread.sleep(SECONDS * 1000L);
            } catch (InterruptedException e) {
                return;
            }
            System.out.println(test + " did not end within " + SECONDS + " seconds");
            Runtime.getRuntime().halt(1);
        });
        watch.setDaemon(true);
        watch.start();
    }
}
