/** Promises 26 to 31: names changed, children, weddings. */
public final class NamesTest {
    public static void main(String[] args) {
        change();
        changeByLetters();
        changeOfKinds();
        changeOfTheLongest();
        changeByAllNames();
        rid();
        ridOfKinds();
        call();
        match();
        crowd();
        part();
        Check.finish("NamesTest");
    }

    private static void change() {
        SameMan x = Check.told("fee 3;one plain az 0 0;one plain yy 0 0;");
        for (int s = 27; s <= 30; s++) {
            Check.due("change to " + s, x.change(0, s, 0), 3 * (s - 27));
            Check.due("letter 0", x.change(0, s, 10), s - 27);
            Check.due("letter 1", x.change(0, s, 11), 25);
        }
        Check.due("change", x.change(0, 26, 0), SameMan.NONE);
        Check.due("change", x.change(0, 31, 0), SameMan.NONE);
        Check.due("change", x.change(0, 31, 10), SameMan.NONE);
        Check.due("change", x.change(0, 9999, 0), SameMan.NONE);
        Check.due("z is the last", x.change(1, 52, 0), 6);
        Check.due("z is the last", x.change(1, 53, 0), SameMan.NONE);
        Check.due("nothing is behind z", x.change(1, 25, 0), SameMan.NONE);
        Check.due("nothing is behind z", x.change(1, 26, 0), SameMan.NONE);
        Check.due("nothing is behind z", x.change(1, 0, 0), SameMan.NONE);
        int[] wrong = {-1, 1, 9, 12, 30, Integer.MIN_VALUE, Integer.MAX_VALUE};
        for (int what : wrong) {
            Check.due("what " + what, x.change(0, 27, what), SameMan.BAD);
            Check.due("what " + what, x.change(0, 26, what), SameMan.BAD);
        }
        Check.due("sum -1", x.change(0, -1, 0), SameMan.BAD);
        Check.due("sum 10000", x.change(0, 10000, 0), SameMan.BAD);
        Check.due("who", x.change(2, 27, 0), SameMan.BAD);
        Check.due("who", x.change(-1, 27, 0), SameMan.BAD);
        Check.due("nothing changed", x.one(0, 10), 0);
    }

    private static void changeByLetters() {
        SameMan x = Check.told("one plain aab 0 0;");
        // aab is 4: one more is aac, not abb and not bab
        Check.due("letter 0", x.change(0, 5, 10), 0);
        Check.due("letter 1", x.change(0, 5, 11), 0);
        Check.due("letter 2", x.change(0, 5, 12), 2);
        x.letter(1, 9);
        x.letter(3, 9);
        // a 1, b 9, c 3, d 9, e 5: 10 is abx for no x; aab 11 and nothing; 5 is aac
        Check.due("fee to 11", x.change(0, 11, 0), 0);
        Check.due("fee to 5", x.change(0, 5, 0), 1);
        // 19 is abb and bab by one: the first is abb
        Check.due("fee to 19", x.change(0, 19, 0), 1);
        Check.due("letter 0", x.change(0, 19, 10), 0);
        Check.due("letter 1", x.change(0, 19, 11), 1);
        // a dear name that is earlier by its letters does not count: acb would be two
        x = Check.told("letter a 0;letter b 5;letter c 5;letter d 0;one plain aa 0 0;");
        Check.due("the least fee first", x.change(0, 5, 0), 1);
        Check.due("letter 0", x.change(0, 5, 10), 0);
        Check.due("letter 1", x.change(0, 5, 11), 1);
        // down by raising: a letter behind may be worth less
        x = Check.told("letter a 40;letter b 40;letter c 40;letter d 0;one plain a 0 0;");
        Check.due("down", x.change(0, 0, 0), 3);
        Check.due("down", x.change(0, 0, 10), 3);
        Check.due("same sum stays", x.change(0, 40, 10), 0);
    }

    private static void changeOfKinds() {
        SameMan x = Check.told("one foreign lz 0 0;one mute ab 0 0;one twin ab 0 0;");
        Check.due("foreign", x.change(0, 12, 0), 0);
        Check.due("foreign m", x.change(0, 13, 0), 1);
        Check.due("foreign n is not his", x.change(0, 0, 0), 2);
        Check.due("foreign n is not his", x.change(0, 0, 10), 13);
        Check.due("foreign o", x.change(0, 15, 0), SameMan.NONE);
        Check.due("mute", x.change(1, 0, 0), 0);
        Check.due("mute", x.change(1, 0, 11), 1);
        Check.due("mute", x.change(1, 3, 0), SameMan.NONE);
        Check.due("twin", x.change(2, 4, 0), 1);
        x.law(1);
        Check.due("by law 1", x.change(2, 6, 0), 1);
        Check.due("by law 1", x.change(2, 6, 10), 1);
        Check.due("by law 1", x.change(2, 7, 11), 2);
    }

    private static void changeOfTheLongest() {
        SameMan x = Check.told("fee 9;law 1;letter w 0;letter z 40;one plain wwwwwwwwww 0 0;one plain wwwwwwwwww 0 0;");
        x.wed(0, 1);
        Check.due("letters", x.one(0, 3), 20);
        Check.due("all z", x.change(0, 8400, 0), 9 * 60);
        Check.due("all z", x.change(0, 8400, 29), 25);
        Check.due("none is raised", x.change(0, 0, 0), 0);
        Check.due("the last alone", x.change(0, 800, 0), 27);
        Check.due("the last alone", x.change(0, 800, 28), 22);
        Check.due("the last alone", x.change(0, 800, 29), 25);
        Check.due("beyond", x.change(0, 8401, 0), SameMan.NONE);
        Check.due("no such place", x.change(0, 8400, 30), SameMan.BAD);
        Check.due("rid", x.rid(0, 0), 10000);
        Check.due("rid", x.rid(0, 1), 0);
    }

    /** Every name that a name of four letters can become, one after the other. */
    private static void changeByAllNames() {
        int[] worths = {3, 0, 5, 3, 1, 4, 1, 2};
        int[] name = {3, 0, 2, 4};
        for (int law = 0; law < 2; law++) {
            SameMan x = Check.told("fee 2;one plain dace 0 0;");
            for (int l = 0; l < worths.length; l++) {
                x.letter(l, worths[l]);
            }
            x.law(law);
            for (int s = 0; s <= 52; s++) {
                int least = 99;
                int[] first = null;
                for (int ways = 0; ways < 256; ways++) {
                    int sum = 0;
                    int raises = 0;
                    int[] then = new int[4];
                    for (int i = 0; i < 4; i++) {
                        int raise = ways >> 2 * (3 - i) & 3;
                        then[i] = name[i] + raise;
                        raises += raise;
                        sum += worths[then[i]] * (law == 1 ? i + 1 : 1);
                    }
                    if (sum == s && raises < least) {
                        least = raises;
                        first = then;
                    }
                }
                Check.due("change to " + s, x.change(0, s, 0), first == null ? SameMan.NONE : 2 * least);
                for (int i = 0; i < 4; i++) {
                    Check.due("letter " + i + " to " + s, x.change(0, s, 10 + i), first == null ? SameMan.NONE : first[i]);
                }
            }
        }
    }

    private static void rid() {
        SameMan x = Check.told("fee 2;one plain a 50 0;one plain b 0 40;one plain c 0 45;one plain d 0 47;one plain f 0 99;");
        Check.due("rid", x.rid(0, 0), 10000 - 50 + 45 - 4);
        Check.due("rid", x.rid(0, 1), 3);
        Check.due("rid", x.rid(0, 2), 4);
        x.wealth(1, 43);
        Check.due("of several the least sum", x.rid(0, 0), 9991);
        Check.due("of several the least sum", x.rid(0, 1), 2);
        Check.due("of several the least sum", x.rid(0, 2), 2);
        x.wealth(0, 50);
        x.wealth(1, 2);
        x.wealth(2, 4);
        x.wealth(3, 6);
        Check.due("as well not", x.rid(0, 0), 10000);
        Check.due("as well not", x.rid(0, 1), 1);
        x.letter(1, 0);
        Check.due("to a lower sum", x.rid(0, 0), 10000);
        Check.due("to a lower sum", x.rid(0, 1), 0);
        Check.due("to a lower sum", x.rid(0, 2), 2);
        Check.due("what", x.rid(0, 3), SameMan.BAD);
        Check.due("what", x.rid(0, -1), SameMan.BAD);
        Check.due("who", x.rid(5, 0), SameMan.BAD);
        Check.due("who", x.rid(-1, 0), SameMan.BAD);
        x = Check.told("fee 9;one plain a 0 9;one plain a 99 0;");
        Check.due("to be rid", x.rid(0, 0), 10000);
        Check.due("to be rid", x.rid(0, 1), 2);
        Check.due("to be rid", x.rid(0, 2), 9);
        Check.due("nothing changed", x.person(0), 3);
    }

    private static void ridOfKinds() {
        SameMan x = Check.told("one twin a 99 1;one plain b 0 99;one mute c 7 9;one twin z 0 90;one foreign n 3 0;");
        Check.due("a twin stays", x.rid(0, 0), 9902);
        Check.due("a twin stays", x.rid(0, 1), 1);
        Check.due("a twin stays", x.rid(0, 2), 0);
        Check.due("a mute one", x.rid(2, 0), 9999);
        Check.due("a mute one", x.rid(2, 1), 0);
        Check.due("a foreign one", x.rid(4, 0), 9999);
        Check.due("no twin is joined", x.rid(1, 0), 10099);
    }

    private static void call() {
        SameMan x = new SameMan();
        Check.due("what", x.call(2), SameMan.BAD);
        Check.due("what", x.call(-1), SameMan.BAD);
        Check.due("empty", x.call(0), SameMan.STATE);
        Check.due("empty", x.call(1), SameMan.STATE);
        x = Check.told("one plain a 9 0;one plain b 0 5;one dead b 0 1;one twin c 0 50;list a c b aa;");
        Check.due("call", x.call(0), 10006);
        Check.due("call", x.call(1), 2);
        x.debt(1, 7);
        Check.due("by himself", x.call(0), 10000);
        Check.due("by himself", x.call(1), 1);
        x = Check.told("one plain a 9 0;list a a;");
        Check.due("below", x.call(0), 9991);
        Check.due("the first", x.call(1), 0);
        x = Check.told("list a;one plain a 0 1;".repeat(4) + "one plain a 0 1;".repeat(4));
        Check.due("of 8", x.call(0), 10008);
        Check.due("nobody is born", x.rule(0), 8);
    }

    private static void match() {
        SameMan x = new SameMan();
        Check.due("what", x.match(2), SameMan.BAD);
        Check.due("what", x.match(-1), SameMan.BAD);
        x = Check.told("one plain a 0 1;one dead b 0 2;");
        Check.due("none", x.match(0), SameMan.NONE);
        Check.due("none", x.match(1), SameMan.NONE);
        x = Check.told("one plain a 0 1;one plain b 0 2;one plain c 0 40;one dead f 0 60;one twin d 0 30;");
        // b and d come to f's 6, but d is a twin; a and c come to 4
        Check.due("match", x.match(0), 10062);
        Check.due("match", x.match(1), 14);
        Check.due("names stay", x.one(0, 3), 1);
        x.become(4, 0);
        Check.due("match", x.match(0), 10092);
        Check.due("match", x.match(1), 14);
        x.law(1);
        // c and b, b and c: 7, 8; d and a 6
        Check.due("match by law 1", x.match(0), 10091);
        Check.due("match by law 1", x.match(1), 40);
        x = Check.told("one plain a 0 1;one plain b 0 2;one plain b 0 40;");
        Check.due("each wedding by itself", x.match(0), 10042);
        Check.due("each wedding by itself", x.match(1), 12);
        x = Check.told("one twin a 5 0;one twin b 0 9;");
        Check.due("p's person", x.match(0), 10009);
        Check.due("p's person", x.match(1), 10);
        x = Check.told("one plain abcdefghij 99 0;one plain abcdefghij 0 99;one plain a 0 0;one plain b 0 5;");
        x.wed(0, 2);
        x.wealth(3, 1);
        // 11, 10, 11 letters and 1: only b can wed
        Check.due("no more than 20 letters", x.match(1), 13);
        Check.due("no more than 20 letters", x.match(0), 10100);
        x = Check.told("one plain abcdefghij 0 0;one plain abcdefghij 0 0;");
        Check.due("20 letters", x.match(1), 1);
        x.wed(0, 1);
        Check.due("40 letters", x.match(0), SameMan.NONE);
    }

    private static void crowd() {
        SameMan x = new SameMan();
        Check.due("none", x.crowd(0, 0), 0);
        Check.due("none", x.crowd(0, 1), 0);
        Check.due("empty", x.crowd(1, 0), SameMan.STATE);
        Check.due("empty", x.crowd(3, 1), SameMan.STATE);
        int[][] wrong = {{-1, 0}, {4, 0}, {0, 2}, {0, -1}, {1, 2}};
        for (int[] w : wrong) {
            Check.due("crowd", x.crowd(w[0], w[1]), SameMan.BAD);
        }
        x = Check.told("one plain a 0 0;one twin b 0 0;list b aa;");
        for (int n = 1; n <= 3; n++) {
            Check.due("fewest", x.crowd(n, 0), 3);
            Check.due("most", x.crowd(n, 1), 3);
        }
        x = Check.told("one plain a 0 0;list a b c d e;");
        for (int n = 0; n <= 3; n++) {
            Check.due("fewest", x.crowd(n, 0), 1);
            Check.due("most", x.crowd(n, 1), 1 + n);
        }
        x = Check.told("list a;" + "one twin a 0 0;".repeat(8));
        Check.due("of 8", x.crowd(3, 0), 9);
        Check.due("of 8", x.crowd(3, 1), 9);
        Check.due("nobody is born", x.rule(0), 8);
    }

    private static void part() {
        SameMan x = new SameMan();
        Check.due("what", x.part(2), SameMan.BAD);
        Check.due("what", x.part(-1), SameMan.BAD);
        x = Check.told("one plain ad 0 0;one plain bc 0 0;");
        Check.due("part", x.part(0), 0);
        Check.due("part", x.part(1), 2);
        Check.due("worth stays", x.worth(0), 1);
        x = Check.told("letter a 0;one plain ad 0 0;one plain d 0 0;");
        Check.due("part", x.part(0), 1);
        Check.due("part", x.part(1), 2);
        x = Check.told("one plain z 0 0;one plain az 0 0;");
        Check.due("they are two", x.part(0), SameMan.NONE);
        Check.due("they are two", x.part(1), SameMan.NONE);
        x = Check.told("one plain ab 0 0;one plain ba 0 0;");
        Check.due("none parts them", x.part(0), SameMan.NONE);
        x.law(1);
        x.letter(1, 1);
        Check.due("law 1", x.part(0), 0);
        x = Check.told("one foreign nz 0 0;one mute a 0 0;one twin b 0 0;one twin b 0 0;");
        Check.due("none parts them", x.part(0), SameMan.NONE);
        x = Check.told("one plain ab 0 0;one plain c 0 0;one plain aaa 0 0;one plain bbb 0 0;");
        // 3, 3, 3, 6: a 0 gives 2, 3, 0, 6; all four at once is the most
        Check.due("part", x.part(0), 0);
        Check.due("part", x.part(1), 4);
        x = Check.told("letter y 40;letter z 40;one plain y 0 0;one plain z 0 0;");
        Check.due("part", x.part(0), 2400);
        Check.due("part", x.part(1), 2);
        // a letter 0 that parts two, a letter behind that parts three
        x = Check.told("letter b 0;letter a 0;one plain c 0 0;one plain ac 0 0;one plain bc 0 0;one plain bbc 0 0;");
        Check.due("part", x.part(0), 101);
        Check.due("part", x.part(1), 3);
    }
}
