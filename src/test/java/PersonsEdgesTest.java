/** Promises 18 to 25 at their bounds: persons. */
public final class PersonsEdgesTest {
    public static void main(String[] args) throws IllegalAccessException {
        Edge.runAll(PersonsEdgesTest.class, 18, 25);
    }

    private static SameMan eight(String one) {
        return Check.told(one.repeat(8));
    }

    /** A ONE of a kind with a name of 20 letters, each the same; a WORTH of that letter. */
    private static SameMan twenty(String kind, char letter, int worth, int law) {
        String ten = String.valueOf(letter).repeat(10);
        SameMan x = Check.told("law " + law + ";letter " + letter + " " + worth + ";one " + kind + " " + ten
                + " 0 0;one plain " + ten + " 0 0;");
        x.wed(0, 1);
        return x;
    }

    // ---- promise 18

    /** "SUM of a ONE": the least and the greatest there can be */
    static void promise18LeastAndGreatest() {
        Edge.due("worth 0", twenty("plain", 'a', 0, 1).sum(0), 0);
        Edge.due("law 0", twenty("plain", 'z', 40, 0).sum(0), 800);
        Edge.due("law 1", twenty("plain", 'z', 40, 1).sum(0), 8400);
        Edge.due("one letter", Check.told("one plain a 0 0;").sum(0), 1);
        Edge.due("one letter by law 1", Check.told("law 1;one plain a 0 0;").sum(0), 1);
    }

    /** "LAW 1: each times its place and 1" */
    static void promise18EachPlaceByLaw1() {
        for (int i = 0; i < 10; i++) {
            String name = "b".repeat(i) + "a" + "b".repeat(9 - i);
            Edge.due("a at " + i, Check.told("law 1;letter a 1;letter b 0;one plain " + name + " 0 0;").sum(0), i + 1);
            Edge.due("by law 0", Check.told("law 0;letter a 1;letter b 0;one plain " + name + " 0 0;").sum(0), 1);
        }
    }

    /** "of a foreign ONE without LETTERS 13 to 25": m is the last that counts */
    static void promise18ForeignLetters() {
        for (int l = 0; l < 26; l++) {
            char c = (char) ('a' + l);
            Edge.due("foreign " + c, Check.told("one foreign " + c + " 0 0;").sum(0), l <= 12 ? l + 1 : 0);
            Edge.due("plain " + c, Check.told("one plain " + c + " 0 0;").sum(0), l + 1);
        }
        Edge.due("none counts", Check.told("one foreign nopqrstuvw 0 0;").sum(0), 0);
        Edge.due("all count", Check.told("one foreign mm 0 0;").sum(0), 26);
    }

    /** "of a foreign ONE": by LAW 1 the letters that count have their own places */
    static void promise18ForeignByLaw1() {
        Edge.due("nam", Check.told("law 1;one foreign nam 0 0;").sum(0), 2 * 1 + 3 * 13);
        Edge.due("anm", Check.told("law 1;one foreign anm 0 0;").sum(0), 1 + 3 * 13);
    }

    /** "of a mute one 0" */
    static void promise18MuteIsNothing() {
        Edge.due("mute", twenty("mute", 'z', 40, 1).sum(0), 0);
        Edge.due("mute", Check.told("one mute a 0 0;").sum(0), 0);
    }

    /** The dead and twins have the SUM of their NAME. */
    static void promise18DeadAndTwins() {
        Edge.due("dead", Check.told("one dead nz 0 0;").sum(0), 40);
        Edge.due("twin", Check.told("one twin nz 0 0;").sum(0), 40);
    }

    /** "BAD" */
    static void promise18Bad() {
        Edge.leavesForEach("sum", Edge::some, Edge.outside(0, 4), p -> x -> x.sum(p), SameMan.BAD);
        Edge.leavesForEach("sum", Edge::full, Edge.outside(0, 7), p -> x -> x.sum(p), SameMan.BAD);
        Edge.due("of nobody", new SameMan().sum(0), SameMan.BAD);
        Edge.leaves("sum", Edge::some, x -> x.sum(4), 11 + 30);
    }

    // ---- promise 19

    /** "bits; himself, too": alone, all eight */
    static void promise19FromOneToEight() {
        Edge.due("alone", Check.told("one plain a 0 0;").person(0), 1);
        SameMan x = eight("one plain a 0 0;");
        for (int p = 0; p < 8; p++) {
            Edge.due("of eight " + p, x.person(p), 255);
        }
        x.become(7, 3);
        Edge.due("the 8th alone", x.person(7), 128);
        Edge.due("the others", x.person(0), 127);
    }

    /** "without twins; a twin is a PERSON by himself": two twins of one SUM are two */
    static void promise19Twins() {
        SameMan x = Check.told("one plain a 0 0;one twin a 0 0;one twin a 0 0;one dead a 0 0;");
        int[] bits = {9, 2, 4, 9};
        for (int p = 0; p < 4; p++) {
            Edge.due("person " + p, x.person(p), bits[p]);
        }
    }

    /** "all ONES of one SUM": also a SUM of 0, the dead, the foreign and the mute */
    static void promise19SumOfZero() {
        SameMan x = Check.told("letter a 0;one plain a 0 0;one dead a 0 0;one foreign z 0 0;one mute b 0 0;one twin a 0 0;");
        Edge.due("person", x.person(0), 15);
        Edge.due("twin", x.person(4), 16);
    }

    /** SUMS that are one apart are two PERSONS. */
    static void promise19OneApart() {
        SameMan x = Check.told("one plain y 0 0;one plain z 0 0;one plain xa 0 0;one plain ya 0 0;");
        Edge.due("25", x.person(0), 5);
        Edge.due("26", x.person(1), 10);
    }

    /** "BAD" */
    static void promise19Bad() {
        Edge.leavesForEach("person", Edge::some, Edge.outside(0, 4), p -> x -> x.person(p), SameMan.BAD);
        Edge.leavesForEach("person", Edge::full, Edge.outside(0, 7), p -> x -> x.person(p), SameMan.BAD);
        Edge.due("of nobody", new SameMan().person(0), SameMan.BAD);
    }

    // ---- promise 20

    /** "How many PERSONS there are": none, one, eight */
    static void promise20FromNoneToEight() {
        Edge.due("none", new SameMan().persons(), 0);
        Edge.due("one of one", Check.told("one dead a 0 0;").persons(), 1);
        Edge.due("one of eight", eight("one plain a 0 0;").persons(), 1);
        Edge.due("eight twins", eight("one twin a 0 0;").persons(), 8);
        StringBuilder eight = new StringBuilder();
        for (char c = 'a'; c <= 'h'; c++) {
            eight.append("one plain ").append(c).append(" 0 0;");
        }
        Edge.due("eight", Check.told(eight.toString()).persons(), 8);
    }

    /** A twin is not counted with the ONES of his SUM, these still are one. */
    static void promise20TwinsBesideOthers() {
        Edge.due("twin first", Check.told("one twin a 0 0;one plain a 0 0;one plain a 0 0;").persons(), 2);
        Edge.due("twin amid", Check.told("one plain a 0 0;one twin a 0 0;one plain a 0 0;").persons(), 2);
        Edge.due("twins", Check.told("one twin a 0 0;one twin a 0 0;one plain a 0 0;").persons(), 3);
    }

    // ---- promise 21

    /** "ONES who are a PERSON by themselves (bits)": none, all */
    static void promise21NoneAndAll() {
        Edge.due("nobody", new SameMan().lone(), 0);
        Edge.due("one", Check.told("one dead a 0 0;").lone(), 1);
        Edge.due("two who are one", Check.told("one plain a 0 0;one plain a 0 0;").lone(), 0);
        Edge.due("eight who are one", eight("one plain a 0 0;").lone(), 0);
        Edge.due("eight twins", eight("one twin a 0 0;").lone(), 255);
        SameMan x = eight("one plain a 0 0;");
        x.become(7, 3);
        Edge.due("the last alone", x.lone(), 128);
    }

    /** A ONE beside a twin of his SUM is a PERSON by himself. */
    static void promise21BesideATwin() {
        Edge.due("plain and twin", Check.told("one plain a 0 0;one twin a 0 0;").lone(), 3);
        Edge.due("two and a twin", Check.told("one plain a 0 0;one twin a 0 0;one plain a 0 0;").lone(), 2);
    }

    // ---- promises 22, 23

    /** "all DEBTS of his ONES": nothing, all that there can be */
    static void promise22NothingAndAll() {
        Edge.due("nothing", eight("one plain a 0 9;").owes(0), 0);
        Edge.due("all", eight("one plain a 99 9;").owes(7), 792);
        Edge.due("a twin", eight("one twin a 99 9;").owes(7), 99);
    }

    /** The dead owe, too. */
    static void promise22OfTheDead() {
        SameMan x = Check.told("one dead a 5 0;one plain a 6 0;one twin a 7 0;one mute a 8 0;");
        Edge.due("with the dead", x.owes(0), 11);
        Edge.due("with the dead", x.owes(1), 11);
        Edge.due("twin", x.owes(2), 7);
        Edge.due("mute", x.owes(3), 8);
    }

    /** "BAD" */
    static void promise22Bad() {
        Edge.leavesForEach("owes", Edge::some, Edge.outside(0, 4), p -> x -> x.owes(p), SameMan.BAD);
        Edge.leavesForEach("owes", Edge::full, Edge.outside(0, 7), p -> x -> x.owes(p), SameMan.BAD);
        Edge.due("of nobody", new SameMan().owes(0), SameMan.BAD);
    }

    /** "HAS all WEALTH of his ONES": nothing, all that there can be */
    static void promise23NothingAndAll() {
        Edge.due("nothing", eight("one plain a 9 0;").has(0), 0);
        Edge.due("all", eight("one plain a 9 99;").has(7), 792);
        Edge.due("a twin", eight("one twin a 9 99;").has(7), 99);
    }

    /** The dead have, too. */
    static void promise23OfTheDead() {
        SameMan x = Check.told("one dead a 0 5;one plain a 0 6;one twin a 0 7;one mute a 0 8;");
        Edge.due("with the dead", x.has(0), 11);
        Edge.due("with the dead", x.has(1), 11);
        Edge.due("twin", x.has(2), 7);
        Edge.due("mute", x.has(3), 8);
    }

    /** "BAD" */
    static void promise23Bad() {
        Edge.leavesForEach("has", Edge::some, Edge.outside(0, 4), p -> x -> x.has(p), SameMan.BAD);
        Edge.leavesForEach("has", Edge::full, Edge.outside(0, 7), p -> x -> x.has(p), SameMan.BAD);
        Edge.due("of nobody", new SameMan().has(0), SameMan.BAD);
    }

    // ---- promise 24

    /** "he VOTES, if one of these is not dead": none, all dead, one alive, all */
    static void promise24NoneAndAll() {
        Edge.due("nobody", new SameMan().votes(), 0);
        Edge.due("dead", Check.told("one dead a 0 0;").votes(), 0);
        Edge.due("eight dead", eight("one dead a 0 0;").votes(), 0);
        Edge.due("eight twins", eight("one twin a 0 0;").votes(), 8);
        Edge.due("one of eight", eight("one plain a 0 0;").votes(), 1);
        for (int p = 0; p < 8; p++) {
            SameMan x = eight("one dead a 0 0;");
            x.become(p, 0);
            Edge.due("alone alive " + p, x.votes(), 1);
        }
    }

    /** Every kind but the dead votes. */
    static void promise24EachKind() {
        String[] kinds = {"plain", "dead", "foreign", "mute", "twin"};
        for (int k = 0; k < 5; k++) {
            Edge.due(kinds[k], Check.told("one " + kinds[k] + " a 0 0;").votes(), k == 1 ? 0 : 1);
        }
    }

    /** A living twin gives the dead of his SUM no vote. */
    static void promise24TwinOfTheDead() {
        SameMan x = Check.told("one dead a 0 0;one twin a 0 0;");
        Edge.due("persons", x.persons(), 2);
        Edge.due("votes", x.votes(), 1);
    }

    // ---- promise 25

    /** "whose SUM is s (bits)": 0, the greatest, all eight */
    static void promise25LeastAndGreatest() {
        Edge.due("sum 0", Check.told("one mute a 0 0;").heirs(0), 1);
        Edge.due("sum 8400", twenty("plain", 'z', 40, 1).heirs(8400), 3);
        Edge.due("sum 8401", twenty("plain", 'z', 40, 1).heirs(8401), 0);
        Edge.due("all eight", eight("one twin a 0 0;").heirs(1), 255);
        Edge.due("none", eight("one twin a 0 0;").heirs(2), 0);
        Edge.due("none", eight("one twin a 0 0;").heirs(Integer.MAX_VALUE), 0);
        Edge.due("of nobody", new SameMan().heirs(0), 0);
    }

    /** "ONES, none dead": twins are heirs, the dead are not */
    static void promise25NoneDead() {
        SameMan x = Check.told("one plain a 0 0;one dead a 0 0;one foreign a 0 0;one mute a 0 0;one twin a 0 0;");
        Edge.due("of 1", x.heirs(1), 1 + 4 + 16);
        Edge.due("of 0", x.heirs(0), 8);
        Edge.due("all dead", eight("one dead a 0 0;").heirs(1), 0);
    }

    /** "BAD: s is below 0" */
    static void promise25BadBelowZero() {
        Edge.leavesForEach("heirs", Edge::some, new int[] {-1, -2, Integer.MIN_VALUE}, s -> x -> x.heirs(s), SameMan.BAD);
        Edge.due("of nobody", new SameMan().heirs(-1), SameMan.BAD);
    }

    /** ONES who are gone by back() are of no PERSON any more: each question asked before and behind. */
    static void promise25WhoIsGone() {
        SameMan x = Check.told("one dead a 5 6;list a a;");
        x.keep(0);
        x.bear(0);
        x.bear(1);
        x.debt(1, 50);
        x.wealth(2, 60);
        int[] with = {7, 1, 0, 55, 66, 1, 6};
        int[] without = {1, 1, 1, 5, 6, 0, 0};
        for (int i = 0; i < 2; i++) {
            int[] due = i == 0 ? with : without;
            Edge.due("person", x.person(0), due[0]);
            Edge.due("persons", x.persons(), due[1]);
            Edge.due("lone", x.lone(), due[2]);
            Edge.due("owes", x.owes(0), due[3]);
            Edge.due("has", x.has(0), due[4]);
            Edge.due("votes", x.votes(), due[5]);
            Edge.due("heirs", x.heirs(1), due[6]);
            x.back(0);
        }
    }

    /** What is asked of PERSONS changes nothing. */
    static void promise25AskingChangesNothing() {
        Edge.leaves("person", Edge::some, x -> x.person(4), Edge.some().person(4));
        Edge.leaves("persons", Edge::some, SameMan::persons, Edge.some().persons());
        Edge.leaves("lone", Edge::some, SameMan::lone, Edge.some().lone());
        Edge.leaves("owes", Edge::some, x -> x.owes(0), Edge.some().owes(0));
        Edge.leaves("has", Edge::some, x -> x.has(0), Edge.some().has(0));
        Edge.leaves("votes", Edge::some, SameMan::votes, Edge.some().votes());
        Edge.leaves("heirs", Edge::some, x -> x.heirs(11 + 30), 16);
    }
}
