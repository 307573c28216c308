/** Promises 18 to 25: persons. */
public final class PersonsTest {
    public static void main(String[] args) {
        sums();
        persons();
        voters();
        wrong();
        askedFirst();
        Check.finish("PersonsTest");
    }

    private static void sums() {
        SameMan x = Check.told("one plain mna 0 0;one dead mna 0 0;one foreign mna 0 0;one mute mna 0 0;one twin mna 0 0;");
        int[] plainly = {28, 28, 14, 0, 28};
        int[] byLaw = {13 + 28 + 3, 13 + 28 + 3, 13 + 3, 0, 13 + 28 + 3};
        for (int p = 0; p < 5; p++) {
            Check.due("sum " + p, x.sum(p), plainly[p]);
        }
        x.law(1);
        for (int p = 0; p < 5; p++) {
            Check.due("sum by law 1 " + p, x.sum(p), byLaw[p]);
        }
    }

    private static void persons() {
        SameMan x = Check.told("one plain ab 1 10;one plain c 2 20;one twin ba 3 30;one dead aaa 4 40;"
                + "one mute z 5 50;one foreign nz 6 60;one plain d 7 70;one twin d 8 80;");
        int[] ones = {11, 11, 4, 11, 48, 48, 64, 128};
        int[] debts = {7, 7, 3, 7, 11, 11, 7, 8};
        for (int p = 0; p < 8; p++) {
            Check.due("person " + p, x.person(p), ones[p]);
            Check.due("owes " + p, x.owes(p), debts[p]);
            Check.due("has " + p, x.has(p), 10 * debts[p]);
        }
        Check.due("persons", x.persons(), 5);
        Check.due("lone", x.lone(), 4 + 64 + 128);
        Check.due("votes", x.votes(), 5);
        Check.due("heirs", x.heirs(3), 1 + 2 + 4);
        Check.due("heirs", x.heirs(0), 16 + 32);
        Check.due("heirs", x.heirs(4), 64 + 128);
        Check.due("heirs", x.heirs(5), 0);
        Check.due("heirs", x.heirs(-1), SameMan.BAD);
        Check.due("heirs", x.heirs(Integer.MAX_VALUE), 0);
        Check.due("heirs", x.heirs(Integer.MIN_VALUE), SameMan.BAD);
    }

    private static void voters() {
        SameMan x = Check.told("one dead a 0 0;one dead a 0 0;one dead b 0 0;one plain b 0 0;one twin c 0 0;one twin c 0 0;");
        Check.due("persons", x.persons(), 4);
        Check.due("votes", x.votes(), 3);
        x.become(3, 1);
        Check.due("votes", x.votes(), 2);
        x.become(0, 2);
        Check.due("votes", x.votes(), 3);
        x.become(0, 4);
        Check.due("votes: a twin leaves a dead one", x.votes(), 3);
        Check.due("persons", x.persons(), 5);
        Check.due("lone", x.lone(), 1 + 2 + 16 + 32);
    }

    /** Each question alone, on an object that was asked none before. */
    private static void askedFirst() {
        String text = "one plain a 1 2;one plain b 3 4;one dead a 5 6;";
        Check.due("sum", Check.told(text).sum(1), 2);
        Check.due("person", Check.told(text).person(0), 5);
        Check.due("persons", Check.told(text).persons(), 2);
        Check.due("lone", Check.told(text).lone(), 2);
        Check.due("owes", Check.told(text).owes(2), 6);
        Check.due("has", Check.told(text).has(0), 8);
        Check.due("votes", Check.told(text).votes(), 2);
        Check.due("heirs", Check.told(text).heirs(1), 1);
        Check.due("rid", Check.told(text).rid(0, 0), 10002);
        Check.due("match", Check.told(text).match(0), 10002);
        Check.due("crowd", Check.told(text).crowd(0, 1), 2);
        Check.due("part", Check.told(text).part(0), SameMan.NONE);
    }

    private static void wrong() {
        SameMan x = Check.told("one plain a 1 2;");
        int[] people = {-1, 1, 8, Integer.MIN_VALUE, Integer.MAX_VALUE};
        for (int p : people) {
            Check.due("sum " + p, x.sum(p), SameMan.BAD);
            Check.due("person " + p, x.person(p), SameMan.BAD);
            Check.due("owes " + p, x.owes(p), SameMan.BAD);
            Check.due("has " + p, x.has(p), SameMan.BAD);
        }
        Check.due("person", x.person(0), 1);
        Check.due("lone", x.lone(), 1);
    }
}
