/** Promises 26 to 31 at their bounds: names changed, children, weddings. */
public final class NamesEdgesTest {
    private static final String TEN = "abcdefghij";

    public static void main(String[] args) throws IllegalAccessException {
        Edge.runAll(NamesEdgesTest.class, 26, 31);
    }

    private static SameMan eight(String text) {
        return Check.told(text.repeat(8));
    }

    // ---- promise 26

    /** "s (0 to 9999)": both ends can be asked */
    static void promise26SumFrom0To9999() {
        SameMan x = Check.told("one mute a 0 0;one plain a 0 0;");
        Edge.due("0 of a mute one", x.change(0, 0, 0), 0);
        Edge.due("0 of another", x.change(1, 0, 0), SameMan.NONE);
        Edge.due("9999", x.change(0, 9999, 0), SameMan.NONE);
        Edge.due("9999", x.change(1, 9999, 10), SameMan.NONE);
    }

    /** "s (0 to 9999)": BAD beyond */
    static void promise26SumOutOfBounds() {
        Edge.leavesForEach("s", Edge::some, Edge.outside(0, 9999), s -> x -> x.change(0, s, 0), SameMan.BAD);
        Edge.leavesForEach("s", Edge::some, Edge.outside(0, 9999), s -> x -> x.change(2, s, 10), SameMan.BAD);
    }

    /** "the NAME of a ONE": BAD, there is no such */
    static void promise26NoSuchOne() {
        Edge.leavesForEach("p", Edge::some, Edge.outside(0, 4), p -> x -> x.change(p, 1, 0), SameMan.BAD);
        Edge.leavesForEach("p", Edge::full, Edge.outside(0, 7), p -> x -> x.change(p, 1, 0), SameMan.BAD);
        Edge.due("the 8th", Edge.full().change(7, 5, 0), 0);
        Edge.due("of nobody", new SameMan().change(0, 0, 0), SameMan.BAD);
    }

    /** "what 0; 10 and i": nothing else */
    static void promise26NoSuchQuestion() {
        int[] wrong = {-1, 1, 2, 3, 4, 5, 6, 7, 8, 9, Integer.MIN_VALUE, Integer.MAX_VALUE, Integer.MIN_VALUE + 9};
        Edge.leavesForEach("what", Edge::some, wrong, what -> x -> x.change(4, 41, what), SameMan.BAD);
    }

    /** "BAD (also no such place)": behind one letter, ten, twenty; ahead of NONE */
    static void promise26NoSuchPlace() {
        SameMan x = Check.told("one plain a 0 0;one plain " + TEN + " 0 0;one plain " + TEN + " 0 0;");
        Edge.due("the only letter", x.change(0, 1, 10), 0);
        Edge.due("behind it", x.change(0, 1, 11), SameMan.BAD);
        Edge.due("behind it, no such sum", x.change(0, 99, 11), SameMan.BAD);
        Edge.due("the only letter, no such sum", x.change(0, 99, 10), SameMan.NONE);
        Edge.due("the last of 10", x.change(1, 55, 19), 9);
        Edge.due("behind 10", x.change(1, 55, 20), SameMan.BAD);
        x.wed(1, 2);
        Edge.due("the last of 20", x.change(1, 110, 29), 9);
        Edge.due("behind 20", x.change(1, 110, 30), SameMan.BAD);
        Edge.due("behind 20, no such sum", x.change(1, 0, 30), SameMan.BAD);
    }

    /** "each LETTER becomes itself or one of the three behind it (z is the last)", of each letter */
    static void promise26ThreeBehind() {
        for (int l = 0; l < 26; l++) {
            SameMan x = Check.told("one plain " + (char) ('a' + l) + " 0 0;");
            for (int s = 0; s <= 31; s++) {
                int raise = s - (l + 1);
                boolean can = raise >= 0 && raise <= 3 && s <= 26;
                Edge.due("letter " + l + " to " + s, x.change(0, s, 0), can ? raise : SameMan.NONE);
                Edge.due("letter " + l + " to " + s, x.change(0, s, 10), can ? l + raise : SameMan.NONE);
            }
        }
    }

    /** "FEE for each by which it is more": FEE 1 and 9, no raise and the most of 20 letters */
    static void promise26LeastAndGreatestFee() {
        for (int fee : new int[] {1, 9}) {
            SameMan x = Check.told("fee " + fee + ";one plain wwwwwwwwww 0 0;one plain wwwwwwwwww 0 0;");
            x.wed(0, 1);
            Edge.due("none", x.change(0, 460, 0), 0);
            Edge.due("one", x.change(0, 461, 0), fee);
            Edge.due("all but one", x.change(0, 519, 0), 59 * fee);
            Edge.due("all", x.change(0, 520, 0), 60 * fee);
            Edge.due("beyond", x.change(0, 521, 0), SameMan.NONE);
            Edge.due("below", x.change(0, 459, 0), SameMan.NONE);
        }
    }

    /** The greatest SUM that a name can come to, and the least. */
    static void promise26To8400() {
        SameMan x = Check.told("law 1;letter a 0;letter b 40;one plain aaaaaaaaaa 0 0;one plain aaaaaaaaaa 0 0;");
        x.letter(2, 0);
        x.letter(3, 0);
        x.wed(0, 1);
        Edge.due("8400", x.change(0, 8400, 0), 20);
        Edge.due("its last letter", x.change(0, 8400, 29), 1);
        Edge.due("8401", x.change(0, 8401, 0), SameMan.NONE);
        Edge.due("8399", x.change(0, 8399, 0), SameMan.NONE);
        Edge.due("8360", x.change(0, 8360, 0), 19);
        Edge.due("8360: the first stays a", x.change(0, 8360, 10), 0);
        Edge.due("0", x.change(0, 0, 0), 0);
        Edge.due("40", x.change(0, 40, 0), 1);
        Edge.due("40: the first becomes b", x.change(0, 40, 10), 1);
    }

    /** "the least FEE of all": a dearer way to the same SUM is left */
    static void promise26LeastOfSeveral() {
        SameMan x = Check.told("letter a 1;letter b 9;letter c 9;letter d 1;one plain aa 0 0;");
        Edge.due("to 10 by ab, ac, ba, ca", x.change(0, 10, 0), 1);
        Edge.due("to 18 by bb and more", x.change(0, 18, 0), 2);
        Edge.due("to 2 by aa, not by dd", x.change(0, 2, 0), 0);
        Edge.due("letter 0", x.change(0, 2, 10), 0);
    }

    /** "of several NAMES the first by LETTERS": of those of the least FEE */
    static void promise26FirstByLetters() {
        SameMan x = Check.told("one plain aaa 0 0;");
        // by one: aab; by three: aad ahead of abc; by five: acd ahead of adc
        int[][] names = {{0, 0, 0}, {0, 0, 1}, {0, 0, 2}, {0, 0, 3}, {0, 1, 3}, {0, 2, 3}, {0, 3, 3}, {1, 3, 3}, {2, 3, 3}, {3, 3, 3}};
        for (int more = 0; more < names.length; more++) {
            for (int i = 0; i < 3; i++) {
                Edge.due("by " + more + " letter " + i, x.change(0, 3 + more, 10 + i), names[more][i]);
            }
        }
        // ab and ba come to 5 by one, ad by three
        x = Check.told("letter a 5;letter b 0;letter c 5;letter d 0;one plain aa 0 0;");
        Edge.due("fee", x.change(0, 5, 0), 1);
        Edge.due("ab, not ba", x.change(0, 5, 10), 0);
        Edge.due("ab, not ad", x.change(0, 5, 11), 1);
    }

    /** "so that his SUM is s": by KIND: letters that do not count can be left or reached */
    static void promise26ByKind() {
        SameMan x = Check.told("one foreign m 0 0;one foreign k 0 0;one foreign n 0 0;one mute a 0 0;one dead a 0 0;one twin a 0 0;");
        Edge.due("m to n", x.change(0, 0, 0), 1);
        Edge.due("m to n", x.change(0, 0, 10), 13);
        Edge.due("m to 14", x.change(0, 14, 0), SameMan.NONE);
        Edge.due("k to n", x.change(1, 0, 0), 3);
        Edge.due("n is none already", x.change(2, 0, 0), 0);
        Edge.due("n to anything", x.change(2, 15, 0), SameMan.NONE);
        Edge.due("mute to 1", x.change(3, 1, 0), SameMan.NONE);
        Edge.due("dead to 4", x.change(4, 4, 0), 3);
        Edge.due("twin to 4", x.change(5, 4, 0), 3);
    }

    /** "NONE: it can not be": a gap between SUMS that can */
    static void promise26GapBetween() {
        SameMan x = Check.told("letter a 0;letter b 40;letter c 20;letter d 7;one plain a 0 0;");
        for (int s = 0; s <= 41; s++) {
            int raise = s == 0 ? 0 : s == 40 ? 1 : s == 20 ? 2 : s == 7 ? 3 : SameMan.NONE;
            Edge.due("to " + s, x.change(0, s, 0), raise);
        }
    }

    /** Nothing is changed by asking. */
    static void promise26AskingChangesNothing() {
        Edge.leaves("change", Edge::some, x -> x.change(4, 41, 0), 0);
        Edge.leaves("change", Edge::some, x -> x.change(4, 9999, 0), SameMan.NONE);
        Edge.leaves("change", Edge::some, x -> x.change(4, 41, 11), 2);
    }

    // ---- promise 27

    /** "(or not)": who is best off as he is stays so, and pays nothing */
    static void promise27OrNot() {
        SameMan x = Check.told("one plain a 0 0;");
        Edge.due("it", x.rid(0, 0), 10000);
        Edge.due("the sum", x.rid(0, 1), 1);
        Edge.due("the fee", x.rid(0, 2), 0);
    }

    /** "less the FEE of all": where the gain is the FEE, one more, one less */
    static void promise27GainAndFee() {
        for (int gain = 8; gain <= 10; gain++) {
            SameMan x = Check.told("fee 9;one plain a 0 0;one plain b 0 " + gain + ";");
            Edge.due("it by " + gain, x.rid(0, 0), gain > 9 ? 10001 : 10000);
            Edge.due("the sum by " + gain, x.rid(0, 1), gain > 9 ? 2 : 1);
            Edge.due("the fee by " + gain, x.rid(0, 2), gain > 9 ? 9 : 0);
        }
    }

    /** "of several SUMS the least": the least is below, or his own, or above */
    static void promise27LeastSumOfSeveral() {
        SameMan x = Check.told("fee 1;letter b 0;one plain a 0 0;one mute z 0 1;one plain c 0 2;");
        // b is 0 where the mute one has 1; c is 3 and has 2: both give 10000 as a does
        Edge.due("it", x.rid(0, 0), 10000);
        Edge.due("the sum", x.rid(0, 1), 0);
        Edge.due("the fee", x.rid(0, 2), 1);
        x.wealth(1, 0);
        Edge.due("his own sum", x.rid(0, 1), 1);
        Edge.due("his own sum", x.rid(0, 2), 0);
        x.debt(0, 9);
        x.wealth(2, 3);
        Edge.due("it", x.rid(0, 0), 9992);
        Edge.due("above", x.rid(0, 1), 3);
        Edge.due("above", x.rid(0, 2), 2);
    }

    /** The greatest and the least that it can be: below 10000, too. */
    static void promise27GreatestAndLeast() {
        SameMan x = Check.told("one plain a 0 99;".repeat(8));
        Edge.due("greatest", x.rid(0, 0), 10792);
        x = Check.told("one mute a 99 0;".repeat(8));
        Edge.due("least", x.rid(0, 0), 9208);
        Edge.due("least", x.rid(0, 1), 0);
        Edge.due("least", x.rid(0, 2), 0);
    }

    /** To come to a PERSON who is three behind, not four; z is the last. */
    static void promise27ThreeBehind() {
        SameMan x = Check.told("one plain a 0 0;one plain d 0 50;one plain e 0 99;");
        Edge.due("it", x.rid(0, 0), 10047);
        Edge.due("the sum", x.rid(0, 1), 4);
        Edge.due("the fee", x.rid(0, 2), 3);
        x = Check.told("letter a 27;one plain z 5 0;one plain a 0 99;");
        Edge.due("nothing is behind z", x.rid(0, 0), 9995);
    }

    /** "of the PERSON he is then": a twin is by himself, and by himself he is no twin's PERSON */
    static void promise27Twins() {
        SameMan x = Check.told("one twin a 9 0;one plain b 0 99;one plain d 0 0;");
        Edge.due("a twin stays", x.rid(0, 0), 9991);
        Edge.due("a twin stays", x.rid(0, 1), 1);
        Edge.due("a twin pays nothing", x.rid(0, 2), 0);
        x.become(0, 0);
        x.become(1, 4);
        Edge.due("nor is a twin joined", x.rid(0, 0), 9991);
    }

    /** The dead, too, are of a PERSON, and can change. */
    static void promise27TheDead() {
        SameMan x = Check.told("one dead a 9 0;one dead b 0 50;");
        Edge.due("it", x.rid(0, 0), 10040);
        Edge.due("the sum", x.rid(0, 1), 2);
    }

    /** The longest name, the greatest SUM. */
    static void promise27LongestName() {
        SameMan x = Check.told("law 1;letter a 0;letter b 40;one plain aaaaaaaaaa 0 0;one plain aaaaaaaaaa 0 0;"
                + "one plain bbbbbbbbbb 0 99;one plain bbbbbbbbbb 0 99;");
        x.wed(0, 1);
        x.wed(2, 3);
        x.become(1, 4);
        Edge.due("it", x.rid(0, 0), 10198 - 20);
        Edge.due("the sum", x.rid(0, 1), 8400);
        Edge.due("the fee", x.rid(0, 2), 20);
    }

    /** "BAD": no such ONE; what is none of 0 to 2 */
    static void promise27Bad() {
        Edge.leavesForEach("p", Edge::some, Edge.outside(0, 4), p -> x -> x.rid(p, 0), SameMan.BAD);
        Edge.leavesForEach("p", Edge::full, Edge.outside(0, 7), p -> x -> x.rid(p, 0), SameMan.BAD);
        Edge.leavesForEach("what", Edge::some, Edge.outside(0, 2), what -> x -> x.rid(0, what), SameMan.BAD);
        Edge.leavesForEach("what", Edge::some, new int[] {10, 4}, what -> x -> x.rid(0, what), SameMan.BAD);
        Edge.due("of nobody", new SameMan().rid(0, 0), SameMan.BAD);
    }

    /** Nothing is changed by asking. */
    static void promise27AskingChangesNothing() {
        for (int what = 0; what < 3; what++) {
            int asked = what;
            Edge.leaves("rid", Edge::some, x -> x.rid(0, asked), Edge.some().rid(0, asked));
        }
    }

    /** ONES who are gone by back() are of no PERSON any more. */
    static void promise27WhoIsGone() {
        SameMan x = Check.told("one plain a 5 6;list a b;");
        x.keep(0);
        x.bear(0);
        x.bear(1);
        x.wealth(1, 90);
        x.wealth(2, 80);
        Edge.due("with both", x.rid(0, 0), 10091);
        x.back(0);
        Edge.due("alone", x.rid(0, 0), 10001);
        Edge.due("alone", x.rid(0, 1), 1);
    }

    // ---- promise 28

    /** "STATE: THE LIST is empty"; BAD goes ahead of it */
    static void promise28EmptyList() {
        Edge.Maker people = () -> Check.told("one plain a 0 0;");
        for (int what = 0; what < 2; what++) {
            int asked = what;
            Edge.leaves("call", people, x -> x.call(asked), SameMan.STATE);
        }
        Edge.leavesForEach("call", people, Edge.outside(0, 1), what -> x -> x.call(what), SameMan.BAD);
    }

    /** "BAD": what is none of 0, 1 */
    static void promise28Bad() {
        Edge.leavesForEach("call", Edge::some, Edge.outside(0, 1), what -> x -> x.call(what), SameMan.BAD);
        Edge.leavesForEach("call", Edge::full, new int[] {2, 10}, what -> x -> x.call(what), SameMan.BAD);
    }

    /** One NAME of nobody; six, the last of which is the best */
    static void promise28OneAndSixNames() {
        SameMan x = Check.told("list a;");
        Edge.due("worth having", x.call(0), 10000);
        Edge.due("name", x.call(1), 0);
        x = Check.told("one plain f 0 1;list a b c d e f;");
        Edge.due("worth having", x.call(0), 10001);
        Edge.due("name", x.call(1), 5);
    }

    /** "of several the first" */
    static void promise28FirstOfSeveral() {
        SameMan x = Check.told("one plain a 1 0;one plain b 0 1;one plain c 0 1;list a b c b;");
        Edge.due("worth having", x.call(0), 10001);
        Edge.due("name", x.call(1), 1);
        x = Check.told("one plain a 9 0;list a a a;");
        Edge.due("below 10000", x.call(0), 9991);
        Edge.due("the first", x.call(1), 0);
    }

    /** The greatest and the least, of 8 PEOPLE: a child is asked for though there is no room for it */
    static void promise28OfEight() {
        SameMan x = Check.told("one plain a 0 99;".repeat(8) + "list a b;");
        Edge.due("greatest", x.call(0), 10792);
        x = Check.told("one plain a 99 0;".repeat(8) + "list a;");
        Edge.due("least", x.call(0), 9208);
        Edge.leaves("of full", Edge::full, y -> y.call(0), 10004);
        Edge.leaves("of full", Edge::full, y -> y.call(1), 0);
    }

    /** "of its PERSON": a child joins no twin, but the dead; it counts as a plain ONE */
    static void promise28PersonOfTheChild() {
        SameMan x = Check.told("one twin a 0 9;list a b;");
        Edge.due("no twin", x.call(0), 10000);
        Edge.due("no twin", x.call(1), 0);
        x = Check.told("one dead b 0 9;list a b;");
        Edge.due("the dead", x.call(0), 10009);
        Edge.due("the dead", x.call(1), 1);
        x = Check.told("one mute b 0 9;list z a;");
        Edge.due("letters 13 to 25 count", x.call(0), 10000);
    }

    /** ONES who are gone by back() are no child's PERSON any more. */
    static void promise28WhoIsGone() {
        SameMan x = Check.told("one plain c 0 0;list a b;");
        x.keep(0);
        x.bear(1);
        x.wealth(1, 90);
        Edge.due("with him", x.call(0), 10090);
        Edge.due("with him", x.call(1), 1);
        x.back(0);
        Edge.due("without", x.call(0), 10000);
        Edge.due("without", x.call(1), 0);
    }

    // ---- promise 29

    /** "NONE: there is none": nobody, one, one beside the dead, the dead alone */
    static void promise29None() {
        String[] texts = {"", "one plain a 0 0;", "one plain a 0 0;one dead b 0 0;", "one dead a 0 0;one dead b 0 0;"};
        for (String text : texts) {
            for (int what = 0; what < 2; what++) {
                int asked = what;
                Edge.leaves("match of " + text, () -> Check.told(text), x -> x.match(asked), SameMan.NONE);
            }
        }
    }

    /** "that gives no more than 20 LETTERS": 20 may be, 21 not */
    static void promise29To20Letters() {
        String ten = "one plain " + TEN + " 0 0;";
        SameMan x = Check.told(ten + ten);
        Edge.due("20", x.match(0), 10000);
        Edge.due("20", x.match(1), 1);
        x = Check.told(ten + "one plain a 0 0;" + ten);
        x.wed(0, 1);
        x.become(1, 1);
        Edge.due("21", x.match(0), SameMan.NONE);
        Edge.due("21", x.match(1), SameMan.NONE);
        x = Check.told(ten + ten + "one plain a 0 0;");
        x.wed(0, 1);
        Edge.due("20 and 1", x.match(1), SameMan.NONE);
    }

    /** "of none who is dead": though it would be the best */
    static void promise29OfNoneDead() {
        SameMan x = Check.told("one dead a 0 99;one plain b 0 1;one plain d 0 2;");
        Edge.due("it", x.match(0), 10003);
        Edge.due("who", x.match(1), 12);
    }

    /** The dead are joined, though, by the SUM that a wedding comes to. */
    static void promise29ToTheDead() {
        SameMan x = Check.told("one dead c 0 99;one plain a 0 0;one plain b 0 0;one plain z 0 9;");
        Edge.due("it", x.match(0), 10099);
        Edge.due("who", x.match(1), 12);
    }

    /** "p, q in either order", "of p's PERSON": q by his kind may be another */
    static void promise29EitherOrder() {
        SameMan x = Check.told("one mute a 5 0;one plain b 0 7;");
        Edge.due("it", x.match(0), 10007);
        Edge.due("q first", x.match(1), 10);
        x = Check.told("one plain a 0 7;one mute b 5 0;");
        Edge.due("p first", x.match(1), 1);
    }

    /** "10 times p and q (1; of several the first)": the first and the last pair there can be */
    static void promise29FirstOfSeveral() {
        SameMan x = eight("one twin a 0 0;");
        Edge.due("all alike", x.match(1), 1);
        x.wealth(7, 1);
        Edge.due("the last as p", x.match(1), 70);
        x = eight("one dead a 0 0;");
        x.become(6, 0);
        x.become(7, 0);
        Edge.due("the last two", x.match(1), 67);
        x.become(7, 4);
        x.wealth(7, 9);
        x.become(6, 4);
        Edge.due("the last two, the other way", x.match(1), 76);
    }

    /** "The WEDDING": one alone, those that were looked at before leave no trace */
    static void promise29EachByItself() {
        SameMan x = Check.told("one plain a 0 0;one plain b 0 5;one plain b 0 7;");
        Edge.due("it", x.match(0), 10012);
        Edge.due("who", x.match(1), 12);
        x = Check.told("one plain a 0 9;one plain a 0 1;one plain c 0 5;");
        Edge.due("it", x.match(0), 10014);
        Edge.due("who", x.match(1), 2);
    }

    /** Below 10000 there is one, too; the least that it can be. */
    static void promise29Least() {
        SameMan x = eight("one mute a 99 0;");
        Edge.due("it", x.match(0), 9208);
        Edge.due("who", x.match(1), 1);
    }

    /** "BAD"; it goes ahead of NONE */
    static void promise29Bad() {
        Edge.leavesForEach("match", Edge::some, Edge.outside(0, 1), what -> x -> x.match(what), SameMan.BAD);
        Edge.leavesForEach("match", SameMan::new, Edge.outside(0, 1), what -> x -> x.match(what), SameMan.BAD);
    }

    /** Nothing is changed by asking. */
    static void promise29AskingChangesNothing() {
        Edge.leaves("match(0)", Edge::some, x -> x.match(0), Edge.some().match(0));
        Edge.leaves("match(1)", Edge::some, x -> x.match(1), Edge.some().match(1));
    }

    // ---- promise 30

    /** "n children (0 to 3)": BAD beyond, ahead of STATE */
    static void promise30ChildrenOutOfBounds() {
        for (int what = 0; what < 2; what++) {
            int asked = what;
            Edge.leavesForEach("n", Edge::some, Edge.outside(0, 3), n -> x -> x.crowd(n, asked), SameMan.BAD);
            Edge.leavesForEach("n", SameMan::new, Edge.outside(0, 3), n -> x -> x.crowd(n, asked), SameMan.BAD);
        }
    }

    /** "what 0, (1)": BAD beyond, ahead of STATE */
    static void promise30NoSuchQuestion() {
        for (int n = 0; n <= 3; n++) {
            int children = n;
            Edge.leavesForEach("what", Edge::some, Edge.outside(0, 1), what -> x -> x.crowd(children, what), SameMan.BAD);
            Edge.leavesForEach("what", SameMan::new, Edge.outside(0, 1), what -> x -> x.crowd(children, what), SameMan.BAD);
        }
    }

    /** "STATE: THE LIST is empty (n above 0)" */
    static void promise30EmptyList() {
        Edge.Maker people = () -> Check.told("one plain a 0 0;one plain b 0 0;");
        for (int what = 0; what < 2; what++) {
            int asked = what;
            Edge.leaves("no children", people, x -> x.crowd(0, asked), 2);
            for (int n = 1; n <= 3; n++) {
                int children = n;
                Edge.leaves(n + " children", people, x -> x.crowd(children, asked), SameMan.STATE);
            }
        }
    }

    /** "n children": none leaves PERSONS as they are, though there is a LIST */
    static void promise30NoChildren() {
        SameMan x = Check.told("one plain a 0 0;list b c;");
        Edge.due("fewest", x.crowd(0, 0), 1);
        Edge.due("most", x.crowd(0, 1), 1);
    }

    /** "the fewest": all join somebody, or all are one more; "the most": each another, as far as NAMES go */
    static void promise30FewestAndMost() {
        for (int n = 1; n <= 3; n++) {
            SameMan x = Check.told("one plain a 0 0;list a;");
            Edge.due("one name that joins, fewest of " + n, x.crowd(n, 0), 1);
            Edge.due("one name that joins, most of " + n, x.crowd(n, 1), 1);
            x = Check.told("one plain a 0 0;list b;");
            Edge.due("one name that does not, fewest of " + n, x.crowd(n, 0), 2);
            Edge.due("one name that does not, most of " + n, x.crowd(n, 1), 2);
            x = Check.told("list b c;");
            Edge.due("two names, fewest of " + n, x.crowd(n, 0), 1);
            Edge.due("two names, most of " + n, x.crowd(n, 1), Math.min(n, 2));
            x = Check.told("one plain a 0 0;list b c d e f a;");
            Edge.due("six names, fewest of " + n, x.crowd(n, 0), 1);
            Edge.due("six names, most of " + n, x.crowd(n, 1), 1 + n);
            x = Check.told("list c ab aaa;");
            Edge.due("names of one sum, fewest of " + n, x.crowd(n, 0), 1);
            Edge.due("names of one sum, most of " + n, x.crowd(n, 1), 1);
        }
    }

    /** Children join no twin; they join the dead. */
    static void promise30TwinsAndTheDead() {
        SameMan x = Check.told("one twin a 0 0;list a;");
        Edge.due("a twin, fewest", x.crowd(1, 0), 2);
        Edge.due("a twin, most", x.crowd(3, 1), 2);
        x = Check.told("one dead a 0 0;list a;");
        Edge.due("a dead one, fewest", x.crowd(1, 0), 1);
        Edge.due("a dead one, most", x.crowd(3, 1), 1);
    }

    /** Of 8 PEOPLE: as if there were room. */
    static void promise30OfEight() {
        SameMan x = Check.told("one twin a 0 0;".repeat(8) + "list a b c;");
        for (int n = 0; n <= 3; n++) {
            Edge.due("fewest of " + n, x.crowd(n, 0), n == 0 ? 8 : 9);
            Edge.due("most of " + n, x.crowd(n, 1), 8 + n);
        }
        Edge.leaves("crowd(3, 1)", Edge::full, y -> y.crowd(3, 1), 5);
        Edge.leaves("crowd(3, 0)", Edge::full, y -> y.crowd(3, 0), 2);
    }

    /** ONES who are gone by back() can not be joined any more. */
    static void promise30WhoIsGone() {
        SameMan x = Check.told("one plain c 0 0;list a;");
        x.keep(0);
        x.bear(0);
        Edge.due("with him", x.crowd(1, 0), 2);
        x.back(0);
        Edge.due("without", x.crowd(0, 0), 1);
        Edge.due("without", x.crowd(1, 0), 2);
    }

    // ---- promise 31

    /** "NONE: none makes more": nobody, one, two who are two, two whom no letter parts, all twins */
    static void promise31None() {
        String[] texts = {"", "one plain a 0 0;", "one plain a 0 0;one plain b 0 0;", "one plain ab 0 0;one plain ba 0 0;",
            "one twin a 0 0;one twin a 0 0;", "one mute a 0 0;one mute b 0 0;", "one foreign n 0 0;one mute b 0 0;"};
        for (String text : texts) {
            for (int what = 0; what < 2; what++) {
                int asked = what;
                Edge.leaves("part of " + text, () -> Check.told(text), x -> x.part(asked), SameMan.NONE);
            }
        }
    }

    /** "becomes another one": of the WORTH that it has nothing is said; 0 is the least, then 1 */
    static void promise31LeastWorth() {
        SameMan x = Check.told("letter a 5;letter b 5;one plain a 0 0;one plain b 0 0;");
        Edge.due("a to 0", x.part(0), 0);
        Edge.due("persons", x.part(1), 2);
        x = Check.told("letter a 0;letter b 0;one plain a 0 0;one plain b 0 0;");
        Edge.due("a is 0, to 1", x.part(0), 1);
        x = Check.told("letter a 40;letter b 40;one plain a 0 0;one plain b 0 0;");
        Edge.due("a is 40, to 0", x.part(0), 0);
    }

    /** "The one LETTER": the last one there is */
    static void promise31LastLetter() {
        SameMan x = Check.told("letter z 0;one mute a 0 0;one plain z 0 0;");
        Edge.due("z to 1", x.part(0), 2501);
        Edge.due("persons", x.part(1), 2);
        x = Check.told("letter y 26;one twin a 0 0;one plain y 0 0;one plain z 0 0;");
        Edge.due("y to 0", x.part(0), 2400);
    }

    /** Of a foreign ONE: the last letter that counts is m. */
    static void promise31ForeignLetters() {
        SameMan x = Check.told("letter m 0;letter n 0;one foreign m 0 0;one foreign n 0 0;");
        Edge.due("m to 1", x.part(0), 1201);
    }

    /** "so that PERSONS are the most": a letter behind that parts more goes ahead of one that parts less */
    static void promise31MostGoesAhead() {
        SameMan x = Check.told("letter a 0;letter b 0;letter c 0;one plain a 0 0;one plain c 0 0;one plain cc 0 0;one plain b 0 0;");
        // c to 1 gives 0, 1, 2, 0; a and b give two alone
        Edge.due("c to 1", x.part(0), 201);
        Edge.due("persons", x.part(1), 3);
    }

    /** "of several the least": a WORTH that parts as many is higher */
    static void promise31LeastOfSeveral() {
        SameMan x = Check.told("letter a 0;letter b 1;one plain b 0 0;one plain ab 0 0;one plain bb 0 0;");
        // 1, 1, 2: a to 1 gives 1, 2, 2; a to 2 gives 1, 3, 2
        Edge.due("a to 2", x.part(0), 2);
        Edge.due("persons", x.part(1), 3);
    }

    /** "more than now": to part two and join two others is no more */
    static void promise31MoreThanNow() {
        SameMan x = Check.told("letter a 1;letter b 1;one plain a 0 0;one plain b 0 0;one plain aa 0 0;one twin c 0 0;");
        // 1, 1, 2: a to 0 joins a and aa
        Edge.due("a to 2, not to 0", x.part(0), 2);
        Edge.due("persons", x.part(1), 4);
    }

    /** All eight parted at once, by places under LAW 1. */
    static void promise31AllEight() {
        StringBuilder text = new StringBuilder("law 1;letter a 0;letter b 0;");
        for (int i = 0; i < 8; i++) {
            text.append("one plain ").append("b".repeat(i)).append("a 0 0;");
        }
        SameMan x = Check.told(text.toString());
        Edge.due("a to 1", x.part(0), 1);
        Edge.due("persons", x.part(1), 8);
    }

    /** "BAD"; it goes ahead of NONE */
    static void promise31Bad() {
        Edge.leavesForEach("part", Edge::some, Edge.outside(0, 1), what -> x -> x.part(what), SameMan.BAD);
        Edge.leavesForEach("part", SameMan::new, Edge.outside(0, 1), what -> x -> x.part(what), SameMan.BAD);
    }

    /** Nothing is changed by asking. */
    static void promise31AskingChangesNothing() {
        Edge.leaves("part(0)", Edge::full, x -> x.part(0), Edge.full().part(0));
        Edge.leaves("part(1)", Edge::some, x -> x.part(1), Edge.some().part(1));
    }
}
