/** Promises 1 to 5: a new object, THE TAPE, the text and its FAULTS. */
public final class TextTest {
    private static final String AT_MOST_TOLD = "law 1;fee 2;letter a 3;one twin ab 4 5;list ab;known 0 6;";

    public static void main(String[] args) {
        newObject();
        tape();
        taken();
        takenInPlaceOfAll();
        takenAgain();
        refusedChangesNothing();
        tokens();
        ends();
        misplaced();
        bounds();
        twice();
        tooMany();
        knownNotListed();
        firstMet();
        Check.finish("TextTest");
    }

    private static void newObject() {
        SameMan x = new SameMan();
        for (int what = 0; what < 4; what++) {
            Check.due("new rule " + what, x.rule(what), what == 2 ? 1 : 0);
        }
        for (int l = 0; l < 26; l++) {
            Check.due("new worth " + l, x.worth(l), l + 1);
        }
        for (int what = 0; what < 3; what++) {
            Check.due("new count " + what, x.count(what), 0);
        }
        Check.due("new count 3", x.count(3), SameMan.NONE);
        Check.due("new count 4", x.count(4), 0);
        Check.due("new count 5", x.count(5), 351);
        Check.due("new fault", x.fault(), 0);
        Check.due("new torn", x.torn(), 0);
        Check.due("nobody", x.one(0, 0), SameMan.BAD);
        Check.due("nothing listed", x.listed(0, 0), SameMan.BAD);
        for (int k = 0; k < 4; k++) {
            Check.due("new sheet " + k, x.lay(k, 0, 0), -11);
        }
        Check.due("no image", x.back(0), SameMan.STATE);
        Check.due("no image", x.back(1), SameMan.STATE);
    }

    private static void tape() {
        SameMan x = new SameMan();
        Check.due("end of nothing", x.end(0), 0);
        Check.due("end beyond", x.end(1), SameMan.BAD);
        for (int n = 1; n <= 40; n++) {
            Check.due("feed " + n, x.feed(0x2020202020202020L), 8 * n);
        }
        Check.due("feed 41", x.feed(0), SameMan.FULL);
        Check.due("bytes", x.count(2), 320);
        Check.due("end -1", x.end(-1), SameMan.BAD);
        Check.due("end 321", x.end(321), SameMan.BAD);
        Check.due("end 313", x.end(313), 320);
        Check.due("feed to 321", x.feed(0), SameMan.FULL);
        Check.due("bytes", x.count(2), 313);
        Check.due("end 312", x.end(312), 313);
        Check.due("feed to 320", x.feed(0x6665652039203b20L), 320);
        Check.due("text at the end of a full tape", x.text(), 1);
        Check.due("fee", x.rule(2), 9);
        Check.due("bytes", x.count(2), 0);
        x.feed(0x6665652036203b01L);
        Check.due("highest byte first, the lowest no token", x.text(), -17);
        Check.due("fault", x.fault(), 1);
    }

    private static void taken() {
        SameMan x = Check.told("letter z 0;letter a 40;fee 9;law 1;one plain a 0 99;one dead b 99 0;"
                + "one foreign c 1 2;one mute d 3 4;one twin abcdefghij 5 6;list zz y;list abcdefghij;known 2 999;known 0 0;");
        Check.due("people", x.rule(0), 5);
        Check.due("law", x.rule(1), 1);
        Check.due("fee", x.rule(2), 9);
        Check.due("list", x.rule(3), 3);
        Check.due("worth z", x.worth(25), 0);
        Check.due("worth a", x.worth(0), 40);
        Check.due("worth b", x.worth(1), 2);
        for (int p = 0; p < 5; p++) {
            Check.due("kind " + p, x.one(p, 0), p);
            Check.due("letters " + p, x.one(p, 3), p == 4 ? 10 : 1);
            Check.due("letter " + p, x.one(p, 10), p == 4 ? 0 : p);
        }
        Check.due("wealth", x.one(0, 2), 99);
        Check.due("debt", x.one(1, 1), 99);
        Check.due("last letter", x.one(4, 19), 9);
        Check.due("listed 0", x.listed(0, 0), 2);
        Check.due("listed 1", x.listed(1, 10), 24);
        Check.due("listed 2", x.listed(2, 0), 10);
        Check.due("known", x.count(0), 2);
    }

    private static void takenInPlaceOfAll() {
        SameMan x = Check.told(AT_MOST_TOLD);
        x.keep(0);
        x.keep(1);
        x.sheet(0, 0, 5);
        x.read(3, 0, 0, 1);
        Check.due("empty text", x.text(), 0);
        Check.due("people", x.rule(0), 0);
        Check.due("law", x.rule(1), 0);
        Check.due("fee", x.rule(2), 1);
        Check.due("list", x.rule(3), 0);
        Check.due("worth", x.worth(0), 1);
        Check.due("known", x.count(0), 0);
        Check.due("images", x.count(1), 0);
        Check.due("back", x.back(0), SameMan.STATE);
        Check.due("sheets stay", x.count(3), 5);
        Check.due("torn stays", x.torn(), 1);
        Check.tape(x, "    ");
        Check.due("blanks alone", x.text(), 0);
    }

    private static void takenAgain() {
        SameMan x = Check.told(AT_MOST_TOLD);
        for (int i = 0; i < 3; i++) {
            Check.tape(x, "one plain cde 0 0;list c d;letter b 9;");
            Check.due("text", x.text(), 3);
            Check.due("people", x.rule(0), 1);
            Check.due("kind", x.one(0, 0), 0);
            Check.due("letters", x.one(0, 3), 3);
            Check.due("letter", x.one(0, 10), 2);
            Check.due("law", x.rule(1), 0);
            Check.due("fee", x.rule(2), 1);
            Check.due("list", x.rule(3), 2);
            Check.due("listed", x.listed(0, 0), 1);
            Check.due("worth a", x.worth(0), 1);
            Check.due("worth b", x.worth(1), 9);
            Check.due("known", x.count(0), 0);
        }
        for (int i = 0; i < 3; i++) {
            Check.tape(x, AT_MOST_TOLD);
            Check.due("all that may be told once is told again", x.text(), 6);
        }
    }

    private static void refusedChangesNothing() {
        SameMan x = Check.told(AT_MOST_TOLD);
        x.keep(0);
        Check.tape(x, "law 0;fee 9;letter a 9;one plain z 9 9;list z;known 0 1;known");
        Check.due("refused", x.text(), -10 - 61);
        Check.due("fault", x.fault(), 2);
        Check.due("tape", x.count(2), 0);
        Check.due("people", x.rule(0), 1);
        Check.due("kind", x.one(0, 0), 4);
        Check.due("name", x.one(0, 11), 1);
        Check.due("debt", x.one(0, 1), 4);
        Check.due("wealth", x.one(0, 2), 5);
        Check.due("law", x.rule(1), 1);
        Check.due("fee", x.rule(2), 2);
        Check.due("worth", x.worth(0), 3);
        Check.due("list", x.rule(3), 1);
        Check.due("listed", x.listed(0, 0), 2);
        Check.due("known", x.count(0), 1);
        Check.due("images", x.count(1), 1);
        Check.due("back", x.back(0), 1);
        Check.due("then an empty text", x.text(), 0);
        Check.due("fault is gone", x.fault(), 0);
    }

    private static void tokens() {
        said("law1;fee2;lettera3;", -20, 2);
        said("law1;fee2;letter a3;", 3, 0);
        said("  law  001  ;  ", 1, 0);
        said("letter a3;one plain ab12 13;list ab cd;known 0 12;", 4, 0);
        said("law 0001;", -14, 1);
        said("law 1000;", -14, 1);
        said("law 123456789012;", -14, 1);
        said("law A;", -14, 1);
        said("Law 1;", -10, 1);
        said("law\t1;", -13, 1);
        said("law 1;\n", -16, 1);
        said("law `;", -14, 1);
        said("law {;", -14, 1);
        said("law /;", -14, 1);
        said("law :;", -14, 1);
        said("law \u00e1;", -14, 1);
        said("law -1;", -14, 1);
        said("law 1<", -15, 1);
        said("list 1000;", -15, 1);
        said("law 1;;", -16, 2);
        said("5", -10, 2);
        said("5000", -10, 1);
    }

    private static void ends() {
        String[] parts = {"law", "law 1", "fee", "letter", "letter a", "letter a 1", "one", "one plain",
            "one plain a", "one plain a 1", "one plain a 1 1", "list", "list a", "known", "known 0", "known 0 1"};
        for (String part : parts) {
            said(part, -10 - part.length(), 2);
            said(part + "  ", -12 - part.length(), 2);
        }
    }

    private static void misplaced() {
        said("lawn 1;", -10, 2);
        said("la 1;", -10, 2);
        said("plain 1;", -10, 2);
        said("saw 1;", -10, 2);
        said("lew 1;", -10, 2);
        said("lax 1;", -10, 2);
        said("one blain a 1 1;", -14, 2);
        said(";", -10, 2);
        said("law a;", -14, 2);
        said("law ;", -14, 2);
        said("law 1 1;", -16, 2);
        said("fee a;", -14, 2);
        said("letter 1 1;", -17, 2);
        said("letter a b;", -19, 2);
        said("letter a 1 1;", -21, 2);
        said("letter ;", -17, 2);
        said("one planes a 1 1;", -14, 2);
        said("one plai a 1 1;", -14, 2);
        said("one 1 a 1 1;", -14, 2);
        said("one dead 1 1 1;", -19, 2);
        said("one dead a b 1;", -21, 2);
        said("one dead a 1 b;", -23, 2);
        said("one dead a 1 1 1;", -25, 2);
        said("list;", -14, 2);
        said("list 1;", -15, 2);
        said("list a 1;", -17, 2);
        said("known a 1;", -16, 2);
        said("known 0 a;", -18, 2);
        said("known 0;", -17, 2);
        said("known 0 1 1;", -20, 2);
    }

    private static void bounds() {
        said("law 2;", -14, 3);
        said("fee 0;", -14, 3);
        said("fee 10;", -14, 3);
        said("fee 9;", 1, 0);
        said("letter a 40;", 1, 0);
        said("letter a 41;", -19, 3);
        said("letter aa 1;", -17, 3);
        said("one plain abcdefghijk 1 1;", -20, 3);
        said("one plain a 99 99;", 1, 0);
        said("one plain a 100 1;", -22, 3);
        said("one plain a 1 100;", -24, 3);
        said("list abcdefghijk;", -15, 3);
        said("list a abcdefghijk;", -17, 3);
        said("list a;known 6 1;", -23, 3);
        said("list a b c d e f;known 5 999;", 2, 0);
    }

    private static void twice() {
        said("law 1; law 5;", -17, 4);
        said("fee 1; fee 0;", -17, 4);
        said("letter b 1;letter b 99;", -28, 4);
        said("letter b 1;letter bb 1;", -28, 3);
        said("letter b 2;letter c 2;", 2, 0);
    }

    private static void tooMany() {
        String ones = "one mute a 1 1;".repeat(8);
        said(ones, 8, 0);
        said(ones + " one", -10 - 121, 5);
        said("list a b c d e f;", 1, 0);
        said("list a b c d e f g;", -27, 5);
        said("list a b c d e f abcdefghijk;", -27, 5);
        said("list a b c d e f;list 1;", -32, 2);
        said("list a b c d e f;list g;", -32, 5);
        said("list a b c d e f 7;", -27, 2);
        String known = "known 0 1;".repeat(6);
        said("list a;" + known, 7, 0);
        said("list a;" + known + "known 9 1;", -77, 5);
    }

    private static void knownNotListed() {
        said("known 0 1;", -20, 6);
        said("known 0 1;  ", -22, 6);
        said("known 0 1;list a;", 2, 0);
        said("list a b;known 2 1;", -29, 6);
        said("list a b;known 1 1;", 2, 0);
        said("known 3 1;law 1;law", -26, 4);
    }

    private static void firstMet() {
        said("fee 10 ?", -14, 3);
        said("law 1?fee 1;", -15, 1);
        said("one plain abcdefghijk 1000 1;", -20, 3);
        said("one king abcdefghijk 1 1;", -14, 2);
        said("letter abc 1000;", -17, 3);
        said("1000 x", -10, 1);
        said("law 1000 x", -14, 1);
        said("law 1 1000 x", -16, 1);
        said("letter 1000 x", -17, 1);
        said("letter a 1000 x", -19, 1);
        said("one 1000 x 1 x", -14, 1);
        said("one twin 1000 x", -19, 1);
        said("one twin a 1000 x", -21, 1);
        said("list 1000 5", -15, 1);
        said("list a 1000 5", -17, 1);
        said("list abcdefghijk 5", -15, 3);
        said("list a abcdefghijk 5", -17, 3);
        said("known 1000 x", -16, 1);
    }

    private static void said(String text, int answer, int fault) {
        SameMan x = new SameMan();
        Check.tape(x, text);
        Check.due("text " + text, x.text(), answer);
        Check.due("fault of " + text, x.fault(), fault);
        Check.due("tape behind " + text, x.count(2), 0);
    }
}
