/** Promises 6 to 17 at their bounds: what there is, what is changed. */
public final class LandEdgesTest {
    private static final String TEN = "abcdefghij";

    public static void main(String[] args) throws IllegalAccessException {
        Edge.runAll(LandEdgesTest.class, 6, 17);
    }

    /** Two ONES whose names are TEN and TEN again, and a third of one letter, a fourth of none alive. */
    private static SameMan longNames() {
        return Check.told("one plain " + TEN + " 1 2;one plain " + TEN + " 3 4;one plain k 5 6;one dead l 7 8;");
    }

    /** The first two of longNames() have twenty letters. */
    private static SameMan longestNames() {
        SameMan x = longNames();
        x.wed(0, 1);
        return x;
    }

    private static SameMan empty() {
        return new SameMan();
    }

    // ---- promise 6

    /** "0 PEOPLE": none, all 8 */
    static void promise06People() {
        Edge.due("none", empty().rule(0), 0);
        Edge.due("one", Check.told("one dead a 0 0;").rule(0), 1);
        Edge.due("eight", Edge.full().rule(0), 8);
    }

    /** "1 LAW, 2 FEE" at both ends */
    static void promise06LawAndFee() {
        SameMan x = empty();
        Edge.due("law", x.rule(1), 0);
        Edge.due("fee", x.rule(2), 1);
        x.law(1);
        x.fee(9);
        Edge.due("law", x.rule(1), 1);
        Edge.due("fee", x.rule(2), 9);
    }

    /** "3 NAMES of THE LIST": none, all 6 */
    static void promise06List() {
        Edge.due("none", empty().rule(3), 0);
        Edge.due("six", Edge.full().rule(3), 6);
    }

    /** "BAD": below 0, above 3 */
    static void promise06Bad() {
        Edge.leavesForEach("rule", Edge::some, Edge.outside(0, 3), what -> x -> x.rule(what), SameMan.BAD);
        Edge.leavesForEach("rule", Edge::some, new int[] {10, 5}, what -> x -> x.rule(what), SameMan.BAD);
    }

    // ---- promise 7

    /** "WORTH of a LETTER": the first, the last, the least, the greatest */
    static void promise07FirstAndLast() {
        SameMan x = Check.told("letter a 40;letter z 0;");
        Edge.due("worth(0)", x.worth(0), 40);
        Edge.due("worth(25)", x.worth(25), 0);
        Edge.due("worth(1)", x.worth(1), 2);
        Edge.due("worth(24)", x.worth(24), 25);
    }

    /** "BAD": there is no such LETTER */
    static void promise07Bad() {
        Edge.leavesForEach("worth", Edge::some, Edge.outside(0, 25), l -> x -> x.worth(l), SameMan.BAD);
    }

    // ---- promise 8

    /** "Of a ONE": the first and the last of 8, each by his own */
    static void promise08FirstAndLastOne() {
        SameMan x = Check.told("one plain a 10 20;one dead b 11 21;one foreign c 12 22;one mute d 13 23;"
                + "one twin e 14 24;one plain f 15 25;one dead g 16 26;one foreign h 17 27;");
        for (int p = 0; p < 8; p++) {
            Edge.due("kind of " + p, x.one(p, 0), p % 5);
            Edge.due("debt of " + p, x.one(p, 1), 10 + p);
            Edge.due("wealth of " + p, x.one(p, 2), 20 + p);
            Edge.due("letters of " + p, x.one(p, 3), 1);
            Edge.due("letter of " + p, x.one(p, 10), p);
        }
    }

    /** "BAD": no such ONE: below 0, at how many there are, of none at all */
    static void promise08NoSuchOne() {
        for (int what : new int[] {0, 1, 2, 3, 10}) {
            Edge.leavesForEach("one", Edge::some, Edge.outside(0, 4), p -> x -> x.one(p, what), SameMan.BAD);
            Edge.leavesForEach("one", Edge::full, Edge.outside(0, 7), p -> x -> x.one(p, what), SameMan.BAD);
            Edge.due("of none", empty().one(0, what), SameMan.BAD);
        }
    }

    /** "BAD": what is none of 0 to 3, nor 10 and more */
    static void promise08NoSuchQuestion() {
        int[] wrong = {-1, 4, 5, 6, 7, 8, 9, Integer.MIN_VALUE, Integer.MAX_VALUE, Integer.MIN_VALUE + 9, -10};
        Edge.leavesForEach("one", Edge::some, wrong, what -> x -> x.one(0, what), SameMan.BAD);
    }

    /** "BAD (also no such place)": names of one, ten and twenty letters */
    static void promise08NoSuchPlace() {
        SameMan x = longestNames();
        Edge.due("the only letter", x.one(2, 10), 10);
        Edge.due("behind one", x.one(2, 11), SameMan.BAD);
        Edge.due("the last of 20", x.one(0, 29), 9);
        Edge.due("behind 20", x.one(0, 30), SameMan.BAD);
        x = longNames();
        Edge.due("the last of 10", x.one(0, 19), 9);
        Edge.due("behind 10", x.one(0, 20), SameMan.BAD);
        Edge.due("far behind 10", x.one(0, 29), SameMan.BAD);
    }

    /** A name that was longer once has no places of then. */
    static void promise08NoPlaceOfBefore() {
        SameMan x = longNames();
        x.keep(0);
        x.wed(0, 1);
        x.back(0);
        Edge.due("letters", x.one(0, 3), 10);
        Edge.due("behind 10", x.one(0, 20), SameMan.BAD);
    }

    // ---- promise 9

    /** "its LETTERS; the LETTER at place i": of one letter, of ten */
    static void promise09Places() {
        SameMan x = Check.told("list z " + TEN + ";");
        Edge.due("letters", x.listed(0, 0), 1);
        Edge.due("the only one", x.listed(0, 10), 25);
        Edge.due("behind it", x.listed(0, 11), SameMan.BAD);
        Edge.due("letters", x.listed(1, 0), 10);
        for (int i = 0; i < 10; i++) {
            Edge.due("letter " + i, x.listed(1, 10 + i), i);
        }
        Edge.due("behind the last", x.listed(1, 20), SameMan.BAD);
    }

    /** "BAD": no such NAME */
    static void promise09NoSuchName() {
        for (int what : new int[] {0, 1, 10}) {
            Edge.leavesForEach("listed", Edge::some, Edge.outside(0, 2), n -> x -> x.listed(n, what), SameMan.BAD);
            Edge.leavesForEach("listed", Edge::full, Edge.outside(0, 5), n -> x -> x.listed(n, what), SameMan.BAD);
        }
        Edge.due("the last of 6", Edge.full().listed(5, 10), 5);
    }

    /** "BAD": what is none of 0, 1, nor 10 and more */
    static void promise09NoSuchQuestion() {
        int[] wrong = {-1, 2, 3, 4, 5, 6, 7, 8, 9, Integer.MIN_VALUE, Integer.MAX_VALUE, Integer.MIN_VALUE + 9};
        Edge.leavesForEach("listed", Edge::some, wrong, what -> x -> x.listed(0, what), SameMan.BAD);
    }

    /** "1 its SUM (of a plain ONE)": letters 13 to 25 count, by LAW 1 places count */
    static void promise09SumOfAPlainOne() {
        SameMan x = Check.told("list amnz;");
        Edge.due("sum", x.listed(0, 1), 1 + 13 + 14 + 26);
        x.law(1);
        Edge.due("by law 1", x.listed(0, 1), 1 + 2 * 13 + 3 * 14 + 4 * 26);
        x = Check.told("letter a 0;list a;");
        Edge.due("a sum of 0", x.listed(0, 1), 0);
        x = Check.told("letter z 40;law 1;list zzzzzzzzzz;");
        Edge.due("the greatest sum", x.listed(0, 1), 40 * 55);
    }

    // ---- promises 10 to 12

    /** "WORTH becomes v: what it was": 0, 40, the same again, of the first and the last LETTER */
    static void promise10FromLeastToGreatest() {
        for (int l : new int[] {0, 1, 12, 13, 24, 25}) {
            SameMan x = empty();
            Edge.due("to 0", x.letter(l, 0), l + 1);
            Edge.due("to 40", x.letter(l, 40), 0);
            Edge.due("to 40 again", x.letter(l, 40), 40);
            Edge.due("worth", x.worth(l), 40);
            Edge.due("the others stay", x.count(5), 351 - (l + 1) + 40);
        }
    }

    /** "BAD": no such LETTER, a WORTH below 0, above 40 */
    static void promise10Bad() {
        Edge.leavesForEach("no letter", Edge::some, Edge.outside(0, 25), l -> x -> x.letter(l, 5), SameMan.BAD);
        Edge.leavesForEach("no worth", Edge::some, Edge.outside(0, 40), v -> x -> x.letter(0, v), SameMan.BAD);
        Edge.leavesForEach("no worth", Edge::some, Edge.outside(0, 40), v -> x -> x.letter(25, v), SameMan.BAD);
    }

    /** "LAW becomes v: what it was" */
    static void promise11FromLeastToGreatest() {
        SameMan x = empty();
        Edge.due("to 0", x.law(0), 0);
        Edge.due("to 1", x.law(1), 0);
        Edge.due("to 1 again", x.law(1), 1);
        Edge.due("to 0", x.law(0), 1);
        Edge.due("law", x.rule(1), 0);
    }

    /** "BAD" */
    static void promise11Bad() {
        Edge.leavesForEach("law", Edge::some, Edge.outside(0, 1), v -> x -> x.law(v), SameMan.BAD);
        SameMan x = empty();
        x.law(1);
        Edge.due("law(2)", x.law(2), SameMan.BAD);
        Edge.due("law", x.rule(1), 1);
    }

    /** "FEE becomes v: what it was" */
    static void promise12FromLeastToGreatest() {
        SameMan x = empty();
        Edge.due("to 1", x.fee(1), 1);
        Edge.due("to 9", x.fee(9), 1);
        Edge.due("to 9 again", x.fee(9), 9);
        Edge.due("to 1", x.fee(1), 9);
        Edge.due("fee", x.rule(2), 1);
    }

    /** "BAD": 0 is none */
    static void promise12Bad() {
        Edge.leavesForEach("fee", Edge::some, Edge.outside(1, 9), v -> x -> x.fee(v), SameMan.BAD);
    }

    // ---- promises 13 to 15

    /** "DEBT of a ONE becomes v: what it was": 0, 99, of the first and the last of 8 */
    static void promise13FromLeastToGreatest() {
        for (int p : new int[] {0, 7}) {
            SameMan x = Edge.full();
            int before = p == 0 ? 1 : 3;
            Edge.due("to 0", x.debt(p, 0), before);
            Edge.due("to 99", x.debt(p, 99), 0);
            Edge.due("debt", x.one(p, 1), 99);
            Edge.due("wealth stays", x.one(p, 2), before + 1);
            Edge.due("the next one's stays", x.one(p == 0 ? 1 : 6, 1), before);
        }
    }

    /** "BAD": no such ONE, a DEBT below 0, above 99 */
    static void promise13Bad() {
        Edge.leavesForEach("no one", Edge::some, Edge.outside(0, 4), p -> x -> x.debt(p, 5), SameMan.BAD);
        Edge.leavesForEach("no one", Edge::full, Edge.outside(0, 7), p -> x -> x.debt(p, 5), SameMan.BAD);
        Edge.leavesForEach("no debt", Edge::some, Edge.outside(0, 99), v -> x -> x.debt(0, v), SameMan.BAD);
    }

    /** "WEALTH of a ONE becomes v: what it was" */
    static void promise14FromLeastToGreatest() {
        for (int p : new int[] {0, 7}) {
            SameMan x = Edge.full();
            int before = p == 0 ? 2 : 4;
            Edge.due("to 0", x.wealth(p, 0), before);
            Edge.due("to 99", x.wealth(p, 99), 0);
            Edge.due("wealth", x.one(p, 2), 99);
            Edge.due("debt stays", x.one(p, 1), before - 1);
            Edge.due("the next one's stays", x.one(p == 0 ? 1 : 6, 2), before);
        }
    }

    /** "BAD": no such ONE, WEALTH below 0, above 99 */
    static void promise14Bad() {
        Edge.leavesForEach("no one", Edge::some, Edge.outside(0, 4), p -> x -> x.wealth(p, 5), SameMan.BAD);
        Edge.leavesForEach("no one", Edge::full, Edge.outside(0, 7), p -> x -> x.wealth(p, 5), SameMan.BAD);
        Edge.leavesForEach("no wealth", Edge::some, Edge.outside(0, 99), v -> x -> x.wealth(0, v), SameMan.BAD);
    }

    /** "A ONE becomes of a KIND: of which he was": each to each */
    static void promise15EachKind() {
        SameMan x = Edge.full();
        int before = 0;
        for (int from = 0; from < 5; from++) {
            for (int to = 0; to < 5; to++) {
                Edge.due("to " + from, x.become(7, from), before);
                Edge.due("to " + to, x.become(7, to), from);
                Edge.due("kind", x.one(7, 0), to);
                before = to;
            }
        }
        Edge.due("the next one's stays", x.one(6, 0), 0);
    }

    /** The dead can become alive again. */
    static void promise15DeadToPlain() {
        SameMan x = longNames();
        Edge.due("dead", x.wed(0, 3), SameMan.STATE);
        Edge.due("become", x.become(3, 0), 1);
        Edge.due("alive", x.wed(0, 3), 55 + 12);
    }

    /** "BAD": no such ONE, no such KIND */
    static void promise15Bad() {
        Edge.leavesForEach("no one", Edge::some, Edge.outside(0, 4), p -> x -> x.become(p, 3), SameMan.BAD);
        Edge.leavesForEach("no one", Edge::full, Edge.outside(0, 7), p -> x -> x.become(p, 3), SameMan.BAD);
        Edge.leavesForEach("no kind", Edge::some, Edge.outside(0, 4), k -> x -> x.become(0, k), SameMan.BAD);
    }

    // ---- promise 16

    /** "A child gets a NAME of THE LIST: his number": from the first ONE to the 8th */
    static void promise16FromFirstToEighth() {
        SameMan x = Check.told("list a " + TEN + ";");
        for (int p = 0; p < 8; p++) {
            Edge.due("bear", x.bear(p % 2), p);
            Edge.due("people", x.rule(0), p + 1);
            Edge.due("letters", x.one(p, 3), p % 2 == 0 ? 1 : 10);
        }
        Edge.due("last letter", x.one(7, 19), 9);
        Edge.due("the first stays", x.one(0, 3), 1);
    }

    /** "a plain ONE, without DEBT and WEALTH": also where another one was before */
    static void promise16ChildIsPlain() {
        SameMan x = Check.told("one twin abc 98 99;list d;");
        x.keep(0);
        SameMan y = Check.told("list d;");
        y.keep(1);
        y.bear(0);
        y.become(0, 4);
        y.debt(0, 9);
        y.wealth(0, 8);
        y.back(1);
        Edge.due("bear", y.bear(0), 0);
        Edge.due("bear", x.bear(0), 1);
        int[] about = {0, 0, 0, 1};
        for (int what = 0; what < 4; what++) {
            Edge.due("child " + what, x.one(1, what), about[what]);
            Edge.due("child in another's place " + what, y.one(0, what), about[what]);
        }
    }

    /** "BAD": no such NAME of THE LIST */
    static void promise16Bad() {
        Edge.leavesForEach("bear", Edge::some, Edge.outside(0, 2), n -> x -> x.bear(n), SameMan.BAD);
        Edge.leaves("of an empty list", LandEdgesTest::empty, x -> x.bear(0), SameMan.BAD);
    }

    /** "FULL": the 9th; BAD goes ahead of it */
    static void promise16Full() {
        for (int n = 0; n < 6; n++) {
            int name = n;
            Edge.leaves("bear(" + n + ")", Edge::full, x -> x.bear(name), SameMan.FULL);
        }
        Edge.leavesForEach("bear", Edge::full, Edge.outside(0, 5), n -> x -> x.bear(n), SameMan.BAD);
    }

    /** A child's NAME is his own: a WEDDING leaves THE LIST. */
    static void promise16NameIsHisOwn() {
        SameMan x = Check.told("list a b;");
        x.bear(0);
        x.bear(1);
        x.wed(0, 1);
        Edge.due("letters of the list's", x.listed(0, 0), 1);
        Edge.due("letters of the list's", x.listed(1, 0), 1);
    }

    // ---- promise 17

    /** "both have the NAME then that is p's, and q's behind it": in either order */
    static void promise17EitherOrder() {
        SameMan x = Check.told("one plain ab 0 0;one plain c 0 0;");
        Edge.due("wed(0, 1)", x.wed(0, 1), 6);
        SameMan y = Check.told("one plain ab 0 0;one plain c 0 0;");
        Edge.due("wed(1, 0)", y.wed(1, 0), 6);
        int[] forth = {0, 1, 2};
        int[] back = {2, 0, 1};
        for (int p = 0; p < 2; p++) {
            Edge.due("letters", x.one(p, 3), 3);
            Edge.due("letters", y.one(p, 3), 3);
            for (int i = 0; i < 3; i++) {
                Edge.due("abc", x.one(p, 10 + i), forth[i]);
                Edge.due("cab", y.one(p, 10 + i), back[i]);
            }
        }
    }

    /** "SUM of p then": by p's kind, by LAW */
    static void promise17SumOfP() {
        String[] kinds = {"plain", "foreign", "mute", "twin"};
        int[] sums = {1 + 14, 1, 0, 1 + 14};
        int[] byLaw = {1 + 28, 1, 0, 1 + 28};
        for (int k = 0; k < 4; k++) {
            String text = "one " + kinds[k] + " a 0 0;one mute n 0 0;";
            Edge.due(kinds[k], Check.told(text).wed(0, 1), sums[k]);
            Edge.due(kinds[k] + " by law 1", Check.told("law 1;" + text).wed(0, 1), byLaw[k]);
        }
    }

    /** "BAD": no such ONE as p, as q */
    static void promise17NoSuchOne() {
        Edge.leavesForEach("p", Edge::some, Edge.outside(0, 4), p -> x -> x.wed(p, 0), SameMan.BAD);
        Edge.leavesForEach("q", Edge::some, Edge.outside(0, 4), q -> x -> x.wed(0, q), SameMan.BAD);
        Edge.leaves("both", Edge::some, x -> x.wed(-1, 5), SameMan.BAD);
        Edge.leavesForEach("with a dead one", Edge::some, Edge.outside(0, 4), q -> x -> x.wed(1, q), SameMan.BAD);
    }

    /** "BAD (also alike)": each one, the dead, too, and where the name would be too long */
    static void promise17Alike() {
        Edge.leavesForEach("wed alike", Edge::some, new int[] {0, 1, 2, 3, 4}, p -> x -> x.wed(p, p), SameMan.BAD);
        Edge.leavesForEach("wed alike", LandEdgesTest::longestNames, new int[] {0, 1, 2, 3}, p -> x -> x.wed(p, p), SameMan.BAD);
    }

    /** "STATE: one of both is dead": p, q, both; ahead of FULL */
    static void promise17Dead() {
        Edge.leaves("p is dead", Edge::some, x -> x.wed(1, 0), SameMan.STATE);
        Edge.leaves("q is dead", Edge::some, x -> x.wed(0, 1), SameMan.STATE);
        Edge.Maker bothDead = () -> Check.told("one dead a 0 0;one dead b 0 0;");
        Edge.leaves("both are dead", bothDead, x -> x.wed(0, 1), SameMan.STATE);
        Edge.leaves("p is dead, too long", LandEdgesTest::longestNames, x -> x.wed(3, 0), SameMan.STATE);
        Edge.leaves("q is dead, too long", LandEdgesTest::longestNames, x -> x.wed(0, 3), SameMan.STATE);
    }

    /** "FULL: more than 20 LETTERS": 20 is allowed */
    static void promise17To20Letters() {
        SameMan x = longNames();
        Edge.due("10 and 10", x.wed(0, 1), 110);
        for (int p = 0; p < 2; p++) {
            Edge.due("letters", x.one(p, 3), 20);
            for (int i = 0; i < 20; i++) {
                Edge.due("letter " + i, x.one(p, 10 + i), i % 10);
            }
        }
        x = Check.told("one plain " + TEN + " 0 0;one plain abcdefghi 0 0;one plain z 0 0;");
        Edge.due("10 and 9", x.wed(0, 1), 55 + 45);
        Edge.due("19 and 1", x.wed(0, 2), 55 + 45 + 26);
        Edge.due("letters", x.one(2, 3), 20);
    }

    /** "FULL: more than 20 LETTERS": 21, 40 */
    static void promise17FullAbove20() {
        Edge.leaves("20 and 1", LandEdgesTest::longestNames, x -> x.wed(0, 2), SameMan.FULL);
        Edge.leaves("1 and 20", LandEdgesTest::longestNames, x -> x.wed(2, 0), SameMan.FULL);
        Edge.leaves("20 and 20", LandEdgesTest::longestNames, x -> x.wed(0, 1), SameMan.FULL);
        Edge.Maker eleven = () -> {
            SameMan x = Check.told("one plain " + TEN + " 0 0;one plain a 0 0;one plain " + TEN + " 0 0;");
            x.wed(0, 1);
            return x;
        };
        Edge.leaves("11 and 10", eleven, x -> x.wed(0, 2), SameMan.FULL);
        Edge.leaves("10 and 11", eleven, x -> x.wed(2, 1), SameMan.FULL);
    }

    /** A WEDDING leaves KIND, DEBT and WEALTH of both, and all others. */
    static void promise17LeavesAllElse() {
        SameMan x = Check.told("one twin a 1 2;one mute b 3 4;one plain c 5 6;");
        x.wed(1, 0);
        int[][] about = {{4, 1, 2, 2}, {3, 3, 4, 2}, {0, 5, 6, 1}};
        for (int p = 0; p < 3; p++) {
            for (int what = 0; what < 4; what++) {
                Edge.due("one(" + p + ", " + what + ")", x.one(p, what), about[p][what]);
            }
        }
    }
}
