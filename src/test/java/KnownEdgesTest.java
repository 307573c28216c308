/** Promises 32 to 35 at their bounds: worths that are unknown, births by a seed. */
public final class KnownEdgesTest {
    public static void main(String[] args) throws IllegalAccessException {
        Edge.runAll(KnownEdgesTest.class, 32, 35);
    }

    // ---- promise 32

    /** "KNOWN: how many are": from the first to the 6th */
    static void promise32FromFirstToSixth() {
        SameMan x = Check.told("list a b c d e f;");
        for (int i = 0; i < 6; i++) {
            Edge.due("know", x.know(i, i), i + 1);
            Edge.due("known", x.count(0), i + 1);
        }
    }

    /** The SUM from 0 to 999, of the first and the last NAME */
    static void promise32LeastAndGreatestSum() {
        SameMan x = Check.told("list a b c d e f;");
        Edge.due("0", x.know(0, 0), 1);
        Edge.due("999", x.know(5, 999), 2);
        Edge.due("what is known can be known again", x.know(0, 0), 3);
    }

    /** "BAD": no such NAME */
    static void promise32NoSuchName() {
        Edge.leavesForEach("n", Edge::some, Edge.outside(0, 2), n -> x -> x.know(n, 5), SameMan.BAD);
        Edge.leavesForEach("n", Edge::some, new int[] {5, 6}, n -> x -> x.know(n, 5), SameMan.BAD);
        Edge.leaves("of an empty list", SameMan::new, x -> x.know(0, 0), SameMan.BAD);
    }

    /** "BAD": a SUM below 0, above 999 */
    static void promise32SumOutOfBounds() {
        Edge.leavesForEach("s", Edge::some, Edge.outside(0, 999), s -> x -> x.know(0, s), SameMan.BAD);
    }

    /** "FULL": the 7th; BAD goes ahead of it */
    static void promise32Full() {
        Edge.leaves("the 7th", Edge::full, x -> x.know(0, 1), SameMan.FULL);
        Edge.leaves("the 7th", Edge::full, x -> x.know(5, 999), SameMan.FULL);
        Edge.leavesForEach("n", Edge::full, Edge.outside(0, 5), n -> x -> x.know(n, 1), SameMan.BAD);
        Edge.leavesForEach("s", Edge::full, Edge.outside(0, 999), s -> x -> x.know(0, s), SameMan.BAD);
    }

    // ---- promise 33

    /** "KNOWN are the first n alone: how many there were": all, one less, none */
    static void promise33FromAllToNone() {
        SameMan x = Edge.full();
        Edge.due("all", x.forget(6), 6);
        Edge.due("one less", x.forget(5), 6);
        Edge.due("known", x.count(0), 5);
        Edge.due("none", x.forget(0), 5);
        Edge.due("known", x.count(0), 0);
        Edge.due("none of none", x.forget(0), 0);
        Edge.due("of a new one", new SameMan().forget(0), 0);
    }

    /** "the first n": the later ones go, and others can come */
    static void promise33FirstOnesStay() {
        SameMan x = Check.told("list a b;known 0 7;known 1 9;");
        x.forget(1);
        Edge.due("a is known", x.solve(0, 1, 2), 7);
        Edge.due("b is not", x.solve(0, 1, 3), SameMan.NONE);
        Edge.due("another", x.know(1, 11), 2);
        Edge.due("b is that", x.solve(0, 1, 3), 11);
        SameMan y = Edge.full();
        y.forget(5);
        Edge.due("room for one", y.know(0, 1), 6);
        Edge.due("and no more", y.know(0, 1), SameMan.FULL);
    }

    /** "BAD": below 0, more than there are */
    static void promise33Bad() {
        Edge.leavesForEach("forget", Edge::some, Edge.outside(0, 2), n -> x -> x.forget(n), SameMan.BAD);
        Edge.leavesForEach("forget", Edge::some, new int[] {6, 7}, n -> x -> x.forget(n), SameMan.BAD);
        Edge.leavesForEach("forget", Edge::full, Edge.outside(0, 6), n -> x -> x.forget(n), SameMan.BAD);
        Edge.leaves("forget(1) of none", SameMan::new, x -> x.forget(1), SameMan.BAD);
    }

    // ---- promise 34

    /** "WORTHS (0 to 40) of two LETTERS": nothing KNOWN leaves every pair */
    static void promise34NothingKnown() {
        SameMan x = new SameMan();
        Edge.due("pairs", x.solve(0, 25, 0), 1681);
        Edge.due("the first", x.solve(0, 25, 1), 0);
        Edge.due("a is not one", x.solve(0, 25, 2), SameMan.NONE);
        Edge.due("b is not one", x.solve(0, 25, 3), SameMan.NONE);
    }

    /** "WORTHS (0 to 40)": both ends are found, 41 is not */
    static void promise34LeastAndGreatestWorth() {
        for (int s = 0; s <= 42; s++) {
            SameMan x = Check.told("list a z;known 0 " + s + ";");
            boolean can = s <= 40;
            Edge.due("pairs for " + s, x.solve(0, 25, 0), can ? 41 : 0);
            Edge.due("first for " + s, x.solve(0, 25, 1), can ? 100 * s : SameMan.NONE);
            Edge.due("a for " + s, x.solve(0, 25, 2), can ? s : SameMan.NONE);
            Edge.due("b for " + s, x.solve(0, 25, 3), SameMan.NONE);
            Edge.due("the other way, first for " + s, x.solve(25, 0, 1), can ? s : SameMan.NONE);
            Edge.due("the other way, a for " + s, x.solve(25, 0, 2), SameMan.NONE);
            Edge.due("the other way, b for " + s, x.solve(25, 0, 3), can ? s : SameMan.NONE);
        }
    }

    /** Two letters in one NAME: sums from 0 to 80, no further. */
    static void promise34TwoInOneName() {
        int[] sums = {0, 1, 40, 41, 79, 80, 81, 999};
        int[] pairs = {1, 2, 41, 40, 2, 1, 0, 0};
        int[] first = {0, 1, 40, 140, 3940, 4040, SameMan.NONE, SameMan.NONE};
        for (int i = 0; i < sums.length; i++) {
            SameMan x = Check.told("list ab;known 0 " + sums[i] + ";");
            Edge.due("pairs for " + sums[i], x.solve(0, 1, 0), pairs[i]);
            Edge.due("first for " + sums[i], x.solve(0, 1, 1), first[i]);
            Edge.due("a for " + sums[i], x.solve(0, 1, 2), pairs[i] == 1 ? first[i] / 100 : SameMan.NONE);
            Edge.due("b for " + sums[i], x.solve(0, 1, 3), pairs[i] == 1 ? first[i] % 100 : SameMan.NONE);
        }
    }

    /** "all that is KNOWN": six of them, the last one, too */
    static void promise34AllSixKnown() {
        SameMan x = Check.told("list a b c d e f;" + "known 0 9;".repeat(5) + "known 1 8;");
        Edge.due("one pair", x.solve(0, 1, 0), 1);
        Edge.due("the first", x.solve(0, 1, 1), 908);
        x.forget(5);
        Edge.due("without the last", x.solve(0, 1, 0), 41);
        x.know(0, 10);
        Edge.due("against the others", x.solve(0, 1, 0), 0);
    }

    /** "all others as they are": a NAME without both letters is so, or it is not */
    static void promise34OthersAsTheyAre() {
        SameMan x = Check.told("list c;known 0 3;");
        Edge.due("c is 3", x.solve(0, 1, 0), 1681);
        x.letter(2, 4);
        for (int what = 0; what < 4; what++) {
            Edge.due("c is 4", x.solve(0, 1, what), what == 0 ? 0 : SameMan.NONE);
        }
        Edge.due("c itself can be 3", x.solve(0, 2, 0), 41);
        Edge.due("c itself can be 3", x.solve(0, 2, 3), 3);
    }

    /** "(of a plain ONE)": letters 13 to 25 count, by LAW 1 places count */
    static void promise34OfAPlainOne() {
        SameMan x = Check.told("list nz;known 0 9;");
        Edge.due("n and z are 9", x.solve(13, 25, 0), 10);
        x.law(1);
        Edge.due("n and twice z are 9", x.solve(13, 25, 0), 5);
        Edge.due("the first", x.solve(13, 25, 1), 104);
    }

    /** "that of a (2), of b (3), where it is one by all": one of several pairs, none of several */
    static void promise34OneByAll() {
        SameMan x = Check.told("law 1;list ab ba;known 0 5;");
        // a 1 b 2, a 3 b 1, a 5 b 0
        Edge.due("pairs", x.solve(0, 1, 0), 3);
        Edge.due("first", x.solve(0, 1, 1), 102);
        Edge.due("a", x.solve(0, 1, 2), SameMan.NONE);
        Edge.due("b", x.solve(0, 1, 3), SameMan.NONE);
        x.know(1, 5);
        // b 1 a 2: not so
        Edge.due("none", x.solve(0, 1, 0), 0);
        x.forget(1);
        x.know(1, 4);
        Edge.due("a 1, b 2", x.solve(0, 1, 0), 1);
        Edge.due("a", x.solve(0, 1, 2), 1);
        Edge.due("b", x.solve(0, 1, 3), 2);
    }

    /** "BAD": no such LETTER */
    static void promise34NoSuchLetter() {
        Edge.leavesForEach("a", Edge::some, Edge.outside(0, 25), a -> x -> x.solve(a, 0, 0), SameMan.BAD);
        Edge.leavesForEach("b", Edge::some, Edge.outside(0, 25), b -> x -> x.solve(0, b, 0), SameMan.BAD);
    }

    /** "BAD (also alike)": each LETTER, whatever is asked */
    static void promise34Alike() {
        SameMan x = Edge.full();
        for (int l = 0; l < 26; l++) {
            for (int what = 0; what < 4; what++) {
                Edge.due("solve " + l, x.solve(l, l, what), SameMan.BAD);
            }
        }
        Edge.leaves("alike", Edge::some, y -> y.solve(0, 0, 0), SameMan.BAD);
    }

    /** "BAD": what is none of 0 to 3; it goes ahead of NONE */
    static void promise34NoSuchQuestion() {
        Edge.leavesForEach("what", Edge::some, Edge.outside(0, 3), what -> x -> x.solve(0, 1, what), SameMan.BAD);
        Edge.Maker none = () -> Check.told("list a;known 0 999;");
        Edge.leavesForEach("what", none, Edge.outside(0, 3), what -> x -> x.solve(0, 1, what), SameMan.BAD);
        for (int what = 1; what < 4; what++) {
            int asked = what;
            Edge.leaves("none", none, x -> x.solve(0, 1, asked), SameMan.NONE);
        }
        Edge.leaves("none", none, x -> x.solve(0, 1, 0), 0);
    }

    // ---- promise 35

    /** "n (1 to 20)": BAD beyond, ahead of STATE */
    static void promise35ChildrenOutOfBounds() {
        for (int what = 0; what < 2; what++) {
            int asked = what;
            Edge.leavesForEach("n", Edge::some, Edge.outside(1, 20), n -> x -> x.year(1, n, asked), SameMan.BAD);
            Edge.leavesForEach("n", SameMan::new, Edge.outside(1, 20), n -> x -> x.year(1, n, asked), SameMan.BAD);
        }
    }

    /** "(what 0), (1)": BAD beyond, ahead of STATE */
    static void promise35NoSuchQuestion() {
        Edge.leavesForEach("what", Edge::some, Edge.outside(0, 1), what -> x -> x.year(1, 1, what), SameMan.BAD);
        Edge.leavesForEach("what", SameMan::new, Edge.outside(0, 1), what -> x -> x.year(1, 20, what), SameMan.BAD);
    }

    /** "STATE: THE LIST is empty" */
    static void promise35EmptyList() {
        Edge.Maker people = () -> Check.told("one plain a 0 0;");
        for (int n : new int[] {1, 20}) {
            Edge.leaves("persons", people, x -> x.year(1, n, 0), SameMan.STATE);
            Edge.leaves("lone", people, x -> x.year(1, n, 1), SameMan.STATE);
        }
    }

    /** One child and twenty, of one NAME */
    static void promise35OneAndTwenty() {
        SameMan x = Check.told("list a;");
        Edge.due("persons of one", x.year(5, 1, 0), 1);
        Edge.due("lone of one", x.year(5, 1, 1), 1);
        Edge.due("persons of two", x.year(5, 2, 0), 1);
        Edge.due("lone of two", x.year(5, 2, 1), 0);
        Edge.due("persons of twenty", x.year(5, 20, 0), 1);
        Edge.due("lone of twenty", x.year(5, 20, 1), 0);
    }

    /** Twenty children beside 8 PEOPLE: as if there were room; the 8 twins stay alone */
    static void promise35TwentyBesideEight() {
        SameMan x = Check.told("one twin a 0 0;".repeat(8) + "list a;");
        Edge.due("persons", x.year(0, 20, 0), 9);
        Edge.due("lone", x.year(0, 20, 1), 8);
        x = Check.told("one plain a 0 0;".repeat(8) + "list a;");
        Edge.due("persons", x.year(0, 20, 0), 1);
        Edge.due("lone", x.year(0, 20, 1), 0);
        Edge.due("lone", x.year(0, 1, 1), 0);
    }

    /** "the seed becomes seed times 1103515245 and 12345; bits 16 to 30": worked out by hand for a few seeds */
    static void promise35SeedsByHand() {
        // bits 16 to 30 behind the first child: 0 gives 0; 1 gives 16838; 2 gives 908; -1 gives 15929
        int[] seeds = {0, 1, 2, -1};
        int[] bits = {0, 16838, 908, 15929};
        for (int names = 1; names <= 6; names++) {
            for (int i = 0; i < seeds.length; i++) {
                int born = bits[i] % names;
                for (int n = 0; n < names; n++) {
                    // a ONE of the NAME n alone: the child is he, or it is another
                    SameMan x = Check.told("one plain " + (char) ('a' + n) + " 0 0;list " + "a b c d e f".substring(0, 2 * names - 1) + ";");
                    Edge.due("seed " + seeds[i] + " of " + names + " for " + n, x.year(seeds[i], 1, 0), n == born ? 1 : 2);
                    Edge.due("lone", x.year(seeds[i], 1, 1), n == born ? 0 : 2);
                }
            }
        }
    }

    /** Seeds at the ends of an int wrap around, child by child. */
    static void promise35SeedsThatWrapAround() {
        int[] seeds = {Integer.MAX_VALUE, Integer.MIN_VALUE, -1, 0, 0x7fff0000, 0x80000001, 0xffff0000};
        for (int seed : seeds) {
            for (int n = 1; n <= 20; n++) {
                SameMan x = Check.told("list a b c d e f;");
                int[] born = new int[6];
                long next = seed & 0xffffffffL;
                for (int i = 0; i < n; i++) {
                    next = (next * 1103515245L + 12345L) % 4294967296L;
                    born[(int) (next / 65536L % 32768L % 6L)]++;
                }
                int persons = 0;
                int lone = 0;
                for (int of : born) {
                    persons += of > 0 ? 1 : 0;
                    lone += of == 1 ? 1 : 0;
                }
                Edge.due("persons by " + seed + " of " + n, x.year(seed, n, 0), persons);
                Edge.due("lone by " + seed + " of " + n, x.year(seed, n, 1), lone);
            }
        }
    }

    /** "By itself": nobody is born, and the next asking begins with its own seed. */
    static void promise35ByItself() {
        Edge.leaves("year", Edge::some, x -> x.year(7, 20, 0), Edge.some().year(7, 20, 0));
        Edge.leaves("year", Edge::full, x -> x.year(7, 20, 1), Edge.full().year(7, 20, 1));
        SameMan x = Check.told("one plain a 0 0;list a b c;");
        int first = x.year(11, 3, 0);
        Edge.due("asked again", x.year(11, 3, 0), first);
        Edge.due("people", x.rule(0), 1);
    }
}
