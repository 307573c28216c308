/** What the tests share: each wrong answer is printed, and a test with one ends with exit code 1. */
final class Check {
    private static int wrong = 0;
    private static int asked = 0;

    private Check() {
    }

    static void due(String call, long got, long want) {
        asked++;
        if (got != want) {
            wrong++;
            if (wrong <= 50) {
                System.out.println(call + " answered " + got + ", due is " + want);
            }
        }
    }

    static int wrong() {
        return wrong;
    }

    /** Puts a text on the tape, which is empty. */
    static void tape(SameMan man, String text) {
        Script.tape(man, text);
    }

    /** A new object that was told a text, which has no fault. */
    static SameMan told(String text) {
        SameMan man = new SameMan();
        tape(man, text);
        int lines = man.text();
        due("lines of " + text, lines, text.chars().filter(c -> c == ';').count());
        return man;
    }

    static void finish(String test) {
        System.out.println(test + ": " + asked + " answers, " + wrong + " wrong");
        if (wrong != 0) {
            System.exit(1);
        }
    }
}
