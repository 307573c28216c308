/** Promises 32 to 35: worths that are unknown, births by a seed. */
public final class KnownTest {
    public static void main(String[] args) {
        known();
        solve();
        solveByLaw();
        year();
        Check.finish("KnownTest");
    }

    private static void known() {
        SameMan x = Check.told("list ab c;");
        Check.due("know", x.know(2, 1), SameMan.BAD);
        Check.due("know", x.know(-1, 1), SameMan.BAD);
        Check.due("know", x.know(0, -1), SameMan.BAD);
        Check.due("know", x.know(0, 1000), SameMan.BAD);
        for (int i = 1; i <= 6; i++) {
            Check.due("know", x.know(i % 2, i == 1 ? 999 : 0), i);
        }
        Check.due("know", x.know(0, 1), SameMan.FULL);
        Check.due("know", x.know(0, 1000), SameMan.BAD);
        Check.due("known", x.count(0), 6);
        Check.due("forget", x.forget(7), SameMan.BAD);
        Check.due("forget", x.forget(-1), SameMan.BAD);
        Check.due("forget", x.forget(6), 6);
        Check.due("forget", x.forget(2), 6);
        Check.due("forget", x.forget(3), SameMan.BAD);
        Check.due("forget", x.forget(0), 2);
        Check.due("known", x.count(0), 0);
    }

    private static void solve() {
        SameMan x = Check.told("list abc aab dd;");
        int[][] wrong = {{0, 0, 0}, {-1, 0, 0}, {0, -1, 0}, {26, 0, 0}, {0, 26, 0}, {0, 1, 4}, {0, 1, -1}};
        for (int[] w : wrong) {
            Check.due("solve", x.solve(w[0], w[1], w[2]), SameMan.BAD);
        }
        Check.due("nothing is known", x.solve(0, 1, 0), 1681);
        Check.due("nothing is known", x.solve(0, 1, 1), 0);
        Check.due("nothing is known", x.solve(0, 1, 2), SameMan.NONE);
        x.know(0, 20);
        // a and b are 17
        Check.due("pairs", x.solve(0, 1, 0), 18);
        Check.due("first", x.solve(0, 1, 1), 17);
        Check.due("a", x.solve(0, 1, 2), SameMan.NONE);
        Check.due("b", x.solve(0, 1, 3), SameMan.NONE);
        x.know(1, 24);
        Check.due("pairs", x.solve(0, 1, 0), 1);
        Check.due("first", x.solve(0, 1, 1), 710);
        Check.due("a", x.solve(0, 1, 2), 7);
        Check.due("b", x.solve(0, 1, 3), 10);
        Check.due("the other way", x.solve(1, 0, 1), 1007);
        Check.due("the other way", x.solve(1, 0, 2), 10);
        Check.due("worths stay", x.worth(0), 1);
        x.know(2, 9);
        for (int what = 0; what < 4; what++) {
            Check.due("d is not so", x.solve(0, 1, what), what == 0 ? 0 : SameMan.NONE);
            Check.due("d is no half", x.solve(3, 4, what), what == 0 ? 0 : SameMan.NONE);
        }
        x.forget(0);
        x.know(2, 80);
        Check.due("one letter is one", x.solve(3, 4, 0), 41);
        Check.due("one letter is one", x.solve(3, 4, 1), 4000);
        Check.due("one letter is one", x.solve(3, 4, 2), 40);
        Check.due("one letter is one", x.solve(3, 4, 3), SameMan.NONE);
        Check.due("one letter is one", x.solve(4, 3, 2), SameMan.NONE);
        Check.due("one letter is one", x.solve(4, 3, 3), 40);
        x.know(2, 82);
        Check.due("one beyond 40", x.solve(3, 4, 0), 0);
    }

    private static void solveByLaw() {
        SameMan x = Check.told("law 1;list ab ba;known 0 12;known 1 9;");
        Check.due("a 2, b 5", x.solve(0, 1, 1), 205);
        Check.due("one pair", x.solve(0, 1, 0), 1);
        x.law(0);
        Check.due("not by law 0", x.solve(0, 1, 0), 0);
    }

    private static void year() {
        SameMan x = new SameMan();
        int[][] wrong = {{0, 0}, {21, 0}, {1, 2}, {1, -1}, {-1, 0}};
        for (int[] w : wrong) {
            Check.due("year", x.year(1, w[0], w[1]), SameMan.BAD);
        }
        Check.due("empty", x.year(1, 1, 0), SameMan.STATE);
        x = Check.told("one plain a 0 0;one twin b 0 0;list a b c d e f;");
        int[] seeds = {0, 1, 7, -1, -9, 12345, Integer.MAX_VALUE, Integer.MIN_VALUE};
        for (int seed : seeds) {
            for (int n = 1; n <= 20; n++) {
                int[] born = new int[6];
                born[0] = 1;
                long next = seed;
                for (int i = 0; i < n; i++) {
                    next = (next * 1103515245L + 12345L) & 0xffffffffL;
                    born[(int) (next / 65536 % 32768 % 6)]++;
                }
                int persons = 1;
                int lone = 1;
                for (int of : born) {
                    persons += of > 0 ? 1 : 0;
                    lone += of == 1 ? 1 : 0;
                }
                Check.due("year " + seed + " " + n, x.year(seed, n, 0), persons);
                Check.due("year " + seed + " " + n, x.year(seed, n, 1), lone);
            }
        }
        Check.due("nobody is born", x.rule(0), 2);
        x = Check.told("list a;" + "one twin a 0 0;".repeat(8));
        Check.due("of 8", x.year(3, 1, 0), 9);
        Check.due("of 8", x.year(3, 1, 1), 9);
        Check.due("of 8", x.year(3, 20, 0), 9);
        Check.due("of 8", x.year(3, 20, 1), 8);
    }
}
