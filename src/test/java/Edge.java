import java.lang.reflect.InvocationTargetException;
import java.lang.reflect.Method;
import java.util.Arrays;
import java.util.Comparator;
import java.util.regex.Matcher;
import java.util.regex.Pattern;

/**
 * What the boundary tests share. A test is a method named promiseNN..., NN being the promise whose sentence it holds to;
 * each wrong answer is printed behind that name.
 */
final class Edge {
    interface Maker {
        SameMan make();
    }

    interface Call {
        int on(SameMan x);
    }

    private interface View {
        String of(SameMan x);
    }

    private static final Pattern TEST = Pattern.compile("promise(\\d\\d)\\w+");

    /** The views that a text which is taken tells anew. */
    private static final String[] TOLD = {"the land", "KNOWN", "IMAGE 0", "IMAGE 1"};
    private static final String[] ALL = {"the land", "KNOWN", "IMAGE 0", "IMAGE 1", "the latest faults", "THE TAPE",
        "SHEET 0", "SHEET 1", "SHEET 2", "SHEET 3"};

    private static String current = "";

    private Edge() {
    }

    /** Runs every test of a class; each of the promises from first to last must have one. */
    static void runAll(Class<?> tests, int first, int last) throws IllegalAccessException {
        boolean[] tested = new boolean[last + 1];
        Method[] methods = tests.getDeclaredMethods();
        Arrays.sort(methods, Comparator.comparing(Method::getName));
        int number = 0;
        for (Method method : methods) {
            Matcher name = TEST.matcher(method.getName());
            if (name.matches()) {
                current = method.getName();
                tested[Integer.parseInt(name.group(1))] = true;
                number++;
                run(method);
            }
        }
        current = tests.getName();
        for (int p = first; p <= last; p++) {
            due("promise " + p + " has a test", tested[p] ? 1 : 0, 1);
        }
        System.out.println(tests.getName() + ": " + number + " boundary cases");
        Check.finish(tests.getName());
    }

    private static void run(Method method) throws IllegalAccessException {
        try {
            method.invoke(null);
        } catch (InvocationTargetException e) {
            due("threw " + e.getCause(), 1, 0);
        }
    }

    static void due(String call, long got, long want) {
        Check.due(current + ": " + call, got, want);
    }

    /** The call is answered so, and leaves all as it was. */
    static void leaves(String call, Maker made, Call asked, int want) {
        due(call, asked.on(made.make()), want);
        for (String view : ALL) {
            SameMan x = made.make();
            asked.on(x);
            same(call + " leaves " + view, view, x, made.make());
        }
    }

    /** As leaves(), for each of several values of the one argument that is out of its bounds. */
    static void leavesForEach(String call, Maker made, int[] values, java.util.function.IntFunction<Call> asked, int want) {
        for (int v : values) {
            leaves(call + " by " + v, made, asked.apply(v), want);
        }
    }

    /** All that a text tells is alike in what both makers make. */
    static void sameTold(String what, Maker one, Maker other) {
        for (String view : TOLD) {
            same(what + ": " + view, view, one.make(), other.make());
        }
        same(what + ": THE TAPE", "THE TAPE", one.make(), other.make());
    }

    /** All but that view is alike. */
    static void sameBut(String left, String what, Maker one, Maker other) {
        for (String view : ALL) {
            if (!view.equals(left)) {
                same(what + ": " + view, view, one.make(), other.make());
            }
        }
    }

    private static void same(String what, String view, SameMan x, SameMan y) {
        String got = viewOf(view).of(x);
        String want = viewOf(view).of(y);
        due(what + (got.equals(want) ? "" : " (" + got + " for " + want + ")"), got.equals(want) ? 1 : 0, 1);
    }

    private static View viewOf(String view) {
        switch (view) {
            case "the land":
                return Edge::land;
            case "KNOWN":
                return Edge::known;
            case "IMAGE 0":
                return x -> image(x, 0);
            case "IMAGE 1":
                return x -> image(x, 1);
            case "the latest faults":
                return x -> x.fault() + " " + x.torn();
            case "THE TAPE":
                return x -> x.count(2) + " bytes " + x.text() + " " + x.fault() + " " + land(x);
            default:
                return x -> sheet(x, view.charAt(view.length() - 1) - '0');
        }
    }

    static String land(SameMan x) {
        StringBuilder seen = new StringBuilder();
        for (int what = 0; what < 4; what++) {
            seen.append(x.rule(what)).append(' ');
        }
        for (int l = 0; l < 26; l++) {
            seen.append(x.worth(l)).append(' ');
        }
        for (int p = 0; p < x.rule(0); p++) {
            seen.append("one");
            for (int what = 0; what < 4; what++) {
                seen.append(' ').append(x.one(p, what));
            }
            for (int i = 0; i < x.one(p, 3); i++) {
                seen.append(' ').append(x.one(p, 10 + i));
            }
            seen.append("; ");
        }
        for (int n = 0; n < x.rule(3); n++) {
            seen.append("list");
            for (int i = 0; i < x.listed(n, 0); i++) {
                seen.append(' ').append(x.listed(n, 10 + i));
            }
            seen.append("; ");
        }
        return seen.append(x.count(0)).append(' ').append(x.count(1)).toString();
    }

    /** What is KNOWN is seen by what it solves, all of it and then less and less. */
    private static String known(SameMan x) {
        StringBuilder seen = new StringBuilder();
        for (int n = x.count(0); n >= 0; n--) {
            seen.append(x.forget(n)).append(' ');
            for (int what = 0; what < 4; what++) {
                seen.append(x.solve(0, 1, what)).append(' ').append(x.solve(2, 13, what)).append(' ');
            }
        }
        return seen.toString();
    }

    private static String image(SameMan x, int k) {
        return x.back(k) + " " + land(x);
    }

    /** A SHEET's lane and cells are seen by reading from each cell on. */
    private static String sheet(SameMan x, int k) {
        StringBuilder seen = new StringBuilder();
        for (int lane = 0; lane < 3; lane++) {
            for (int f = 0; f <= 40; f++) {
                int came = x.read(k, lane, f, 1);
                seen.append(came).append(' ').append(x.torn()).append(' ');
                if (came == 0) {
                    break;
                }
                seen.append(x.count(5)).append(' ');
            }
        }
        return seen.toString();
    }

    /** Values beside low and high, and the farthest ones. */
    static int[] outside(int low, int high) {
        return new int[] {low - 1, high + 1, Integer.MIN_VALUE, Integer.MAX_VALUE};
    }

    /** A land with some of everything, each part unlike the others, and all of it unlike a new one. */
    static SameMan some() {
        return Script.some(new SameMan());
    }

    /** A land in which everything that has a bound is full. */
    static SameMan full() {
        return Script.full(new SameMan());
    }

    static void row(SameMan x, int k, int lane, int... cells) {
        x.sheet(k, lane, cells.length);
        for (int i = 0; i < cells.length; i++) {
            x.lay(k, i, cells[i]);
        }
    }
}
