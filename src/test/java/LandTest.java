/** Promises 6 to 17: what there is, what is changed. */
public final class LandTest {
    private static final String PAIR = "one plain ab 1 2;one twin cd 3 4;one dead e 5 6;one mute fg 7 8;list hi jkl;";

    public static void main(String[] args) {
        asked();
        changed();
        born();
        wed();
        wedByKinds();
        Check.finish("LandTest");
    }

    private static void asked() {
        SameMan x = Check.told(PAIR);
        int[] rules = {4, 0, 1, 2};
        for (int what = -2; what < 7; what++) {
            Check.due("rule " + what, x.rule(what), what >= 0 && what < 4 ? rules[what] : SameMan.BAD);
        }
        Check.due("worth -1", x.worth(-1), SameMan.BAD);
        Check.due("worth 26", x.worth(26), SameMan.BAD);
        int[] wrong = {-1, 4, 8, Integer.MIN_VALUE, Integer.MAX_VALUE};
        for (int p : wrong) {
            Check.due("one " + p, x.one(p, 0), SameMan.BAD);
            Check.due("listed " + p, x.listed(p, 0), SameMan.BAD);
        }
        Check.due("listed 2", x.listed(2, 0), SameMan.BAD);
        int[] about = {0, 1, 2, 2, -1, -1, -1, -1, -1, -1, 0, 1, -1};
        for (int what = 0; what < about.length; what++) {
            Check.due("one 0 " + what, x.one(0, what), about[what]);
        }
        int[] ofName = {3, 33, -1, -1, -1, -1, -1, -1, -1, -1, 9, 10, 11, -1};
        for (int what = 0; what < ofName.length; what++) {
            Check.due("listed 1 " + what, x.listed(1, what), ofName[what]);
        }
        int[] far = {-1, -10, 30, Integer.MIN_VALUE, Integer.MIN_VALUE + 9, Integer.MAX_VALUE};
        for (int what : far) {
            Check.due("one 0 " + what, x.one(0, what), SameMan.BAD);
            Check.due("listed 0 " + what, x.listed(0, what), SameMan.BAD);
        }
        x.law(1);
        Check.due("sum of a listed name by law 1", x.listed(1, 1), 10 + 22 + 36);
        x.letter(11, 0);
        Check.due("sum of a listed name", x.listed(1, 1), 10 + 22);
    }

    private static void changed() {
        SameMan x = Check.told(PAIR);
        Check.due("letter", x.letter(25, 40), 26);
        Check.due("letter", x.letter(25, 0), 40);
        Check.due("letter", x.letter(25, 41), SameMan.BAD);
        Check.due("letter", x.letter(25, -1), SameMan.BAD);
        Check.due("letter", x.letter(26, 1), SameMan.BAD);
        Check.due("letter", x.letter(-1, 1), SameMan.BAD);
        Check.due("worth", x.worth(25), 0);
        Check.due("law", x.law(1), 0);
        Check.due("law", x.law(2), SameMan.BAD);
        Check.due("law", x.law(-1), SameMan.BAD);
        Check.due("law", x.law(0), 1);
        Check.due("fee", x.fee(9), 1);
        Check.due("fee", x.fee(0), SameMan.BAD);
        Check.due("fee", x.fee(10), SameMan.BAD);
        Check.due("fee", x.fee(1), 9);
        Check.due("debt", x.debt(0, 0), 1);
        Check.due("debt", x.debt(0, 99), 0);
        Check.due("debt", x.debt(0, 100), SameMan.BAD);
        Check.due("debt", x.debt(0, -1), SameMan.BAD);
        Check.due("debt", x.debt(4, 1), SameMan.BAD);
        Check.due("debt", x.debt(-1, 1), SameMan.BAD);
        Check.due("debt", x.one(0, 1), 99);
        Check.due("wealth", x.wealth(1, 0), 4);
        Check.due("wealth", x.wealth(1, 99), 0);
        Check.due("wealth", x.wealth(1, 100), SameMan.BAD);
        Check.due("wealth", x.wealth(1, -1), SameMan.BAD);
        Check.due("wealth", x.wealth(4, 1), SameMan.BAD);
        Check.due("wealth", x.wealth(-1, 1), SameMan.BAD);
        Check.due("wealth", x.one(1, 2), 99);
        Check.due("debt stays", x.one(1, 1), 3);
        Check.due("become", x.become(1, 0), 4);
        Check.due("become", x.become(1, 4), 0);
        Check.due("become", x.become(1, 5), SameMan.BAD);
        Check.due("become", x.become(1, -1), SameMan.BAD);
        Check.due("become", x.become(4, 0), SameMan.BAD);
        Check.due("become", x.become(-1, 0), SameMan.BAD);
        Check.due("kind", x.one(1, 0), 4);
    }

    private static void born() {
        SameMan x = Check.told(PAIR);
        Check.due("bear", x.bear(2), SameMan.BAD);
        Check.due("bear", x.bear(-1), SameMan.BAD);
        for (int p = 4; p < 8; p++) {
            Check.due("bear", x.bear(1), p);
        }
        int[] about = {0, 0, 0, 3, -1, -1, -1, -1, -1, -1, 9, 10, 11, -1};
        for (int what = 0; what < about.length; what++) {
            Check.due("child " + what, x.one(7, what), about[what]);
        }
        Check.due("bear", x.bear(0), SameMan.FULL);
        Check.due("bear", x.bear(2), SameMan.BAD);
        Check.due("people", x.rule(0), 8);
        for (int i = 0; i < 2; i++) {
            x = Check.told("one twin a 9 8;list bc;");
            x.keep(0);
            Check.tape(x, "list b;");
            x.text();
            Check.tape(x, "list bc;");
            x.text();
            Check.due("bear where somebody was", x.bear(0), 0);
            for (int what = 0; what < 4; what++) {
                Check.due("child " + what, x.one(0, what), what == 3 ? 2 : 0);
            }
        }
    }

    private static void wed() {
        SameMan x = Check.told(PAIR);
        Check.due("wed", x.wed(0, 0), SameMan.BAD);
        Check.due("wed", x.wed(0, 4), SameMan.BAD);
        Check.due("wed", x.wed(-1, 0), SameMan.BAD);
        Check.due("wed alike and dead", x.wed(2, 2), SameMan.BAD);
        Check.due("wed", x.wed(0, 2), SameMan.STATE);
        Check.due("wed", x.wed(2, 0), SameMan.STATE);
        Check.due("wed", x.wed(1, 0), 10);
        int[] name = {2, 3, 0, 1};
        for (int i = 0; i < 5; i++) {
            Check.due("name", x.one(0, 10 + i), i < 4 ? name[i] : SameMan.BAD);
            Check.due("name", x.one(1, 10 + i), i < 4 ? name[i] : SameMan.BAD);
        }
        Check.due("kind stays", x.one(1, 0), 4);
        Check.due("debt stays", x.one(1, 1), 3);
        Check.due("kind stays", x.one(0, 0), 0);
        Check.due("wed", x.wed(0, 1), 20);
        Check.due("wed", x.wed(0, 1), 40);
        Check.due("wed to 32", x.wed(0, 1), SameMan.FULL);
        Check.due("letters", x.one(0, 3), 16);
        Check.due("wed mute", x.wed(3, 0), 0);
        Check.due("letters", x.one(0, 3), 18);
        x.become(2, 0);
        Check.due("wed", x.wed(0, 2), 40 + 13 + 5);
        Check.due("wed to 20", x.wed(2, 1), SameMan.FULL);
        x = Check.told("one plain abcdefghij 0 0;one plain abcdefghij 0 0;one plain a 0 0;one dead b 0 0;");
        Check.due("wed to 20", x.wed(0, 1), 110);
        Check.due("letters", x.one(1, 3), 20);
        Check.due("wed to 21", x.wed(2, 0), SameMan.FULL);
        Check.due("dead first", x.wed(3, 0), SameMan.STATE);
        Check.due("name stays", x.one(2, 3), 1);
    }

    private static void wedByKinds() {
        SameMan x = Check.told("law 1;one foreign az 0 0;one plain nb 0 0;");
        Check.due("wed", x.wed(0, 1), 1 + 2 * 4);
        Check.due("sum", x.sum(1), 1 + 26 * 2 + 14 * 3 + 2 * 4);
    }
}
