/** Promises 1 to 5 at their bounds: a new object, THE TAPE, the text and its FAULTS. */
public final class TextEdgesTest {
    private static final String LETTERS = "abcdefghijklmnopqrstuvwxyz";
    private static final String TEN = "abcdefghij";
    private static final String ELEVEN = "abcdefghijk";

    /** One line of each form, token by token. */
    private static final String[][] LINES = {
        {"law", "1", ";"},
        {"fee", "9", ";"},
        {"letter", "z", "40", ";"},
        {"one", "twin", "ab", "99", "98", ";"},
        {"list", "ab", ";"},
        {"known", "0", "999", ";"},
    };

    public static void main(String[] args) throws IllegalAccessException {
        Edge.runAll(TextEdgesTest.class, 1, 5);
    }

    private static void said(String text, int answer, int fault) {
        SameMan x = new SameMan();
        Check.tape(x, text);
        Edge.due("text " + text, x.text(), answer);
        Edge.due("fault of " + text, x.fault(), fault);
        Edge.due("bytes behind " + text, x.count(2), 0);
    }

    private static void taken(String text, int lines) {
        said(text, lines, 0);
    }

    private static void refused(String text, int place, int fault) {
        said(text, -10 - place, fault);
    }

    // ---- promise 1

    /** "Nobody" */
    static void promise01Nobody() {
        SameMan x = new SameMan();
        Edge.due("rule(0)", x.rule(0), 0);
        for (int what = 0; what < 30; what++) {
            Edge.due("one(0, " + what + ")", x.one(0, what), SameMan.BAD);
        }
        Edge.due("debt", x.debt(0, 1), SameMan.BAD);
        Edge.due("wealth", x.wealth(0, 1), SameMan.BAD);
        Edge.due("become", x.become(0, 1), SameMan.BAD);
        Edge.due("wed", x.wed(0, 1), SameMan.BAD);
        Edge.due("sum", x.sum(0), SameMan.BAD);
        Edge.due("person", x.person(0), SameMan.BAD);
        Edge.due("owes", x.owes(0), SameMan.BAD);
        Edge.due("has", x.has(0), SameMan.BAD);
        Edge.due("change", x.change(0, 0, 0), SameMan.BAD);
        Edge.due("rid", x.rid(0, 0), SameMan.BAD);
    }

    /** "Nobody": so there are no persons either */
    static void promise01NobodyIsNoPerson() {
        SameMan x = new SameMan();
        Edge.due("persons", x.persons(), 0);
        Edge.due("lone", x.lone(), 0);
        Edge.due("votes", x.votes(), 0);
        Edge.due("heirs(0)", x.heirs(0), 0);
        Edge.due("heirs(1)", x.heirs(1), 0);
        Edge.due("crowd(0, 0)", x.crowd(0, 0), 0);
        Edge.due("crowd(0, 1)", x.crowd(0, 1), 0);
        Edge.due("match(0)", x.match(0), SameMan.NONE);
        Edge.due("match(1)", x.match(1), SameMan.NONE);
        Edge.due("part(0)", x.part(0), SameMan.NONE);
        Edge.due("part(1)", x.part(1), SameMan.NONE);
        Edge.due("count(4)", x.count(4), 0);
    }

    /** "an empty LIST" */
    static void promise01EmptyList() {
        SameMan x = new SameMan();
        Edge.due("rule(3)", x.rule(3), 0);
        Edge.due("listed(0, 0)", x.listed(0, 0), SameMan.BAD);
        Edge.due("listed(0, 1)", x.listed(0, 1), SameMan.BAD);
        Edge.due("listed(0, 10)", x.listed(0, 10), SameMan.BAD);
        Edge.due("bear(0)", x.bear(0), SameMan.BAD);
        Edge.due("know(0, 0)", x.know(0, 0), SameMan.BAD);
        Edge.due("call(0)", x.call(0), SameMan.STATE);
        Edge.due("crowd(1, 0)", x.crowd(1, 0), SameMan.STATE);
        Edge.due("year(0, 1, 0)", x.year(0, 1, 0), SameMan.STATE);
    }

    /** "SHEETS have nothing" */
    static void promise01SheetsHaveNothing() {
        SameMan x = new SameMan();
        Edge.due("count(3)", x.count(3), SameMan.NONE);
        for (int k = 0; k < 4; k++) {
            Edge.due("lay(" + k + ")", x.lay(k, 0, 0), -11);
            for (int lane = 0; lane < 3; lane++) {
                Edge.due("read(" + k + ")", x.read(k, lane, 0, 1), 0);
                Edge.due("torn", x.torn(), 1);
            }
        }
    }

    /** "a WORTH (1 more than its number at first). LAW (0), FEE (1)" */
    static void promise01WorthsLawAndFee() {
        SameMan x = new SameMan();
        for (int l = 0; l < 26; l++) {
            Edge.due("worth " + l, x.worth(l), l + 1);
        }
        Edge.due("rule(1)", x.rule(1), 0);
        Edge.due("rule(2)", x.rule(2), 1);
    }

    /** A new object has nothing KNOWN, no IMAGE, no byte, no FAULT. */
    static void promise01NothingElse() {
        SameMan x = new SameMan();
        Edge.due("count(0)", x.count(0), 0);
        Edge.due("count(1)", x.count(1), 0);
        Edge.due("count(2)", x.count(2), 0);
        Edge.due("back(0)", x.back(0), SameMan.STATE);
        Edge.due("back(1)", x.back(1), SameMan.STATE);
        Edge.due("fault", x.fault(), 0);
        Edge.due("torn", x.torn(), 0);
        Edge.due("keep(0)", x.keep(0), 0);
        Edge.due("solve", x.solve(0, 1, 0), 41 * 41);
    }

    /** A new object shares nothing with another one. */
    static void promise01ByItself() {
        SameMan first = Edge.some();
        Edge.due("the other one has people", first.rule(0), 5);
        Edge.due("the new one has none", new SameMan().rule(0), 0);
        Edge.due("nor its worths", new SameMan().worth(0), 1);
        Edge.due("nor its bytes", new SameMan().count(2), 0);
    }

    // ---- promise 2

    /** "Eight bytes come behind THE TAPE: how many it has" */
    static void promise02EightBytesEach() {
        SameMan x = new SameMan();
        long[] values = {0, -1, Long.MIN_VALUE, Long.MAX_VALUE, 0x2020202020202020L};
        for (int i = 0; i < values.length; i++) {
            Edge.due("feed " + values[i], x.feed(values[i]), 8 * (i + 1));
            Edge.due("count(2)", x.count(2), 8 * (i + 1));
        }
    }

    /** "the highest first" */
    static void promise02HighestByteFirst() {
        for (int place = 0; place < 8; place++) {
            SameMan x = new SameMan();
            long blanks = 0x2020202020202020L;
            x.feed(blanks & ~(255L << 56 - 8 * place) | 255L << 56 - 8 * place);
            Edge.due("255 at " + place, x.text(), -10 - place);
            Edge.due("fault", x.fault(), 1);
        }
    }

    /** "behind THE TAPE" */
    static void promise02BehindWhatIsThere() {
        SameMan x = new SameMan();
        Check.tape(x, "fee");
        Edge.due("feed", x.feed(0x20373b2020202020L), 11);
        Edge.due("text", x.text(), 1);
        Edge.due("fee", x.rule(2), 7);
    }

    /** "FULL: more than 320": 320 is allowed */
    static void promise02To320() {
        SameMan x = new SameMan();
        for (int n = 1; n <= 40; n++) {
            Edge.due("feed " + n, x.feed(0x2020202020202020L), 8 * n);
        }
        Edge.due("all of it is read", x.text(), 0);
    }

    /** "FULL: more than 320": each tape of 313 to 320 bytes; what was there stays */
    static void promise02FullAbove320() {
        for (int n = 313; n <= 320; n++) {
            int bytes = n;
            Edge.Maker made = () -> {
                SameMan x = Edge.full();
                x.end(bytes);
                return x;
            };
            Edge.leaves("feed behind " + n, made, x -> x.feed(0x2020202020202020L), SameMan.FULL);
        }
        SameMan x = Edge.full();
        x.end(312);
        Edge.due("feed behind 312", x.feed(0x206665652035203bL), 320);
        Edge.due("text", x.text(), 1);
        Edge.due("the last eight bytes are those", x.rule(2), 5);
    }

    /** THE TAPE is empty behind a text: 320 bytes more come then. */
    static void promise02AgainBehindText() {
        SameMan x = Edge.full();
        x.text();
        for (int n = 1; n <= 40; n++) {
            Edge.due("feed " + n, x.feed(0), 8 * n);
        }
        Edge.due("feed 41", x.feed(0), SameMan.FULL);
    }

    // ---- promise 3

    /** "keeps its first n bytes: how many it had": none, all, one less */
    static void promise03FromNoneToAll() {
        SameMan x = new SameMan();
        Edge.due("end(0) of none", x.end(0), 0);
        x.feed(0x6665652039203b20L);
        Edge.due("end(8) of 8", x.end(8), 8);
        Edge.due("end(7) of 8", x.end(7), 8);
        Edge.due("end(7) of 7", x.end(7), 7);
        Edge.due("count(2)", x.count(2), 7);
        Edge.due("end(0) of 7", x.end(0), 7);
        Edge.due("count(2)", x.count(2), 0);
        Edge.due("text of none", x.text(), 0);
    }

    /** "keeps its first n bytes": of a full tape */
    static void promise03OfAFullTape() {
        SameMan x = Edge.full();
        Edge.due("end(320)", x.end(320), 320);
        Edge.due("end(319)", x.end(319), 320);
        Edge.due("the last byte is gone", x.text(), -329);
        Edge.due("the end can not stand there", x.fault(), 2);
    }

    /** "keeps its first n bytes": those behind are gone for good */
    static void promise03BytesBehindAreGone() {
        SameMan x = new SameMan();
        x.feed(0x6665652039203b3fL);
        x.end(4);
        x.feed(0x36203b2020202020L);
        Edge.due("text", x.text(), 1);
        Edge.due("fee", x.rule(2), 6);
    }

    /** "BAD": below 0 */
    static void promise03BadBelowNothing() {
        Edge.leavesForEach("end", Edge::some, new int[] {-1, -8, Integer.MIN_VALUE}, n -> x -> x.end(n), SameMan.BAD);
        Edge.leaves("end(-1) of none", SameMan::new, x -> x.end(-1), SameMan.BAD);
    }

    /** "BAD": more bytes than there are */
    static void promise03BadAboveAll() {
        Edge.leavesForEach("end", Edge::some, new int[] {22, 320, 321, Integer.MAX_VALUE}, n -> x -> x.end(n), SameMan.BAD);
        Edge.leavesForEach("end", Edge::full, new int[] {321, Integer.MAX_VALUE}, n -> x -> x.end(n), SameMan.BAD);
        Edge.leaves("end(1) of none", SameMan::new, x -> x.end(1), SameMan.BAD);
    }

    // ---- promise 4: the text as a whole

    /** "text: { line }": no line at all */
    static void promise04NoLines() {
        taken("", 0);
        taken(" ", 0);
        taken(" ".repeat(320), 0);
    }

    /** "how many lines": as many as a tape has room for */
    static void promise04ManyLines() {
        StringBuilder text = new StringBuilder("law0;fee1;");
        for (int l = 0; l < 26; l++) {
            text.append("letter ").append(LETTERS.charAt(l)).append("0;");
        }
        for (int n = 0; n < 6; n++) {
            text.append("list a;");
        }
        Edge.due("bytes", text.length(), 312);
        taken(text.toString(), 34);
        refused(text + "known0 0", 320, 2);
    }

    /** "places from 0": a FAULT at the first byte, at the last of 320, and at the length */
    static void promise04FirstAndLastPlace() {
        refused("?", 0, 1);
        refused(";", 0, 2);
        refused(" ".repeat(319) + "?", 319, 1);
        refused(" ".repeat(319) + ";", 319, 2);
        refused("fee 1;" + " ".repeat(313) + "q", 319, 2);
        refused("fee" + " ".repeat(317), 320, 2);
        refused("known 0 0;" + " ".repeat(310), 320, 6);
        taken("fee 1" + " ".repeat(314) + ";", 1);
    }

    /** "THE TAPE (empty then)": also if the text is refused */
    static void promise04TapeIsEmptyThen() {
        SameMan x = Edge.full();
        Edge.due("taken", x.text(), 1);
        Edge.due("bytes", x.count(2), 0);
        Edge.due("an empty text then", x.text(), 0);
        x = Edge.full();
        x.end(319);
        Edge.due("refused", x.text(), -329);
        Edge.due("bytes", x.count(2), 0);
        Edge.due("an empty text then", x.text(), 0);
    }

    /** "that which was told stays": a refused text changes THE TAPE alone */
    static void promise04RefusedTellsNothing() {
        // some() has FAULT 3 from before, so that a text with FAULT 3 leaves that, too
        String[] texts = {"fee 0;", "law 0;fee 9;letter a 41;", "letter a 0;one plain z 100 1;",
            "one mute q 1 1;list q;known 0 1;known 6 1;", "list q r s t u " + ELEVEN + ";", "known 0 1;list " + ELEVEN};
        for (String text : texts) {
            Edge.sameBut("no view", text, () -> {
                SameMan x = Edge.some();
                x.end(0);
                Check.tape(x, text);
                x.text();
                return x;
            }, () -> {
                SameMan x = Edge.some();
                x.end(0);
                return x;
            });
        }
    }

    /** "that which was told stays": though all was told ahead of FAULT 6 */
    static void promise04RefusedBehindAllTellsNothing() {
        Edge.sameBut("the latest faults", "fault 6", () -> {
            SameMan x = Edge.some();
            x.end(0);
            Check.tape(x, "law 0;fee 9;letter a 0;one mute q 1 1;list q;known 1 1;");
            Edge.due("text", x.text(), -10 - 55);
            return x;
        }, () -> {
            SameMan x = Edge.some();
            x.end(0);
            return x;
        });
    }

    /** "A text that is taken tells all, in place of what there was; IMAGES are gone." */
    static void promise04TakenTellsAll() {
        String most = "law 1;fee 9;letter c 40;one twin " + TEN + " 99 98;one dead z 97 96;list " + TEN + " z;known 1 5;known 0 9;";
        String[] texts = {"", "law 1;", "fee 2;", "letter c 9;", "one mute q 1 1;", "list q;", "list q;known 0 5;",
            "one twin q 99 0;list " + TEN + " b;", most};
        for (String text : texts) {
            Edge.sameTold(text, () -> toldBehind(Edge.some(), text), () -> toldBehind(new SameMan(), text));
            Edge.sameTold(text + " behind much", () -> toldBehind(Edge.some(), most, text), () -> toldBehind(new SameMan(), text));
            Edge.sameTold(text + " behind much twice", () -> toldBehind(new SameMan(), most, most, text),
                    () -> toldBehind(new SameMan(), text));
            Edge.sameTold(text + " again", () -> toldBehind(new SameMan(), text, text, text), () -> toldBehind(new SameMan(), text));
        }
    }

    private static SameMan toldBehind(SameMan x, String... texts) {
        for (String text : texts) {
            x.end(0);
            Check.tape(x, text);
            x.text();
            x.keep(1);
        }
        return x;
    }

    /** "IMAGES are gone", both of them; a refused text leaves them */
    static void promise04ImagesAreGone() {
        SameMan x = Edge.some();
        x.end(0);
        Check.tape(x, "law 2;");
        x.text();
        Edge.due("images behind a refused text", x.count(1), 2);
        x.text();
        Edge.due("images behind an empty text", x.count(1), 0);
        Edge.due("back(0)", x.back(0), SameMan.STATE);
        Edge.due("back(1)", x.back(1), SameMan.STATE);
        Edge.due("keep(0)", x.keep(0), 0);
    }

    /** A text tells nothing of SHEETS. */
    static void promise04SheetsStay() {
        SameMan x = Edge.some();
        x.text();
        Edge.due("cells", x.count(3), 6);
        Edge.due("torn", x.torn(), 2);
        Edge.due("read", x.read(0, 0, 0, 1), 1);
        Edge.due("worth", x.worth(3), 9);
    }

    /** What may be told once may be told again by the next text, also behind one that was refused. */
    static void promise04EachTextBeginsAnew() {
        SameMan x = new SameMan();
        String all = "law 1;fee 2;letter a 3;" + "one mute a 1 1;".repeat(8) + "list a b c d e f;" + "known 5 1;".repeat(6);
        for (int i = 0; i < 4; i++) {
            Check.tape(x, all + (i % 2 == 0 ? "" : "law"));
            Edge.due("text " + i, x.text(), i % 2 == 0 ? 18 : -10 - all.length());
            Edge.due("fault " + i, x.fault(), i % 2 == 0 ? 0 : 4);
        }
    }

    // ---- promise 4: tokens

    /** "TOKENS: words (a .. z), NUMBERS, one ;", "blanks (32)": each byte that there is, alone */
    static void promise04EachByteAlone() {
        for (int b = 0; b < 256; b++) {
            boolean token = b >= 'a' && b <= 'z' || b >= '0' && b <= '9' || b == ';';
            said("" + (char) b, b == 32 ? 0 : -10, b == 32 ? 0 : token ? 2 : 1);
        }
    }

    /** The same behind a number. */
    static void promise04EachByteBehindANumber() {
        for (int b = 0; b < 256; b++) {
            String text = "law 1" + (char) b;
            if (b == ';') {
                taken(text, 1);
            } else if (b >= '0' && b <= '9') {
                refused(text, 4, 3);
            } else if (b == 32) {
                refused(text, 6, 2);
            } else {
                refused(text, 5, b >= 'a' && b <= 'z' ? 2 : 1);
            }
        }
    }

    /** The same between a word and a number. */
    static void promise04EachByteBehindAWord() {
        for (int b = 0; b < 256; b++) {
            String text = "law" + (char) b + "1;";
            if (b == 32 || b == '0') {
                taken(text, 1);
            } else if (b >= 'a' && b <= 'z') {
                refused(text, 0, 2);
            } else {
                refused(text, 3, b == ';' ? 2 : b >= '1' && b <= '9' ? 3 : 1);
            }
        }
    }

    /** "each as long as may be": tokens of two kinds need no blank between them, those of one kind do */
    static void promise04AsLongAsMayBe() {
        taken("law1;fee2;letter a3;one twin a4 5;list a;known0 6;", 6);
        refused("lawfee 1;", 0, 2);
        refused("lettera 1;", 0, 2);
        refused("one plaina 1 1;", 4, 2);
        refused("one plain a 11;", 14, 2);
        refused("known 01;", 8, 2);
        refused("law 1;;", 6, 2);
        taken("list ab;", 1);
        SameMan x = Check.told("list ab a b;");
        Edge.due("names", x.rule(3), 3);
    }

    /** "blanks between": any number of them, ahead and behind, too */
    static void promise04Blanks() {
        taken("   law   1   ;   fee   2   ;   ", 2);
        taken("letter a 1 ;list a  b ; ", 2);
    }

    /** "NUMBERS (1 to 3 figures)": three are allowed, also with 0 ahead */
    static void promise04NumbersOfThreeFigures() {
        taken("law 0;", 1);
        taken("law 01;", 1);
        taken("law 001;", 1);
        taken("list a;known 000 999;", 2);
        SameMan x = Check.told("fee 007;letter z 040;one plain a 099 001;");
        Edge.due("fee", x.rule(2), 7);
        Edge.due("worth", x.worth(25), 40);
        Edge.due("debt", x.one(0, 1), 99);
        Edge.due("wealth", x.one(0, 2), 1);
    }

    /** "1 a NUMBER that is too long (its first byte)": four figures, and as many as a tape has */
    static void promise04NumberOfFourFigures() {
        refused("law 0001;", 4, 1);
        refused("law 1000;", 4, 1);
        refused("law 1000", 4, 1);
        refused("0000", 0, 1);
        refused("law " + "0".repeat(316), 4, 1);
        refused("9".repeat(320), 0, 1);
        refused("list a;known 0 1000;", 15, 1);
    }

    /** "1 no TOKEN (its first byte)": wherever a token is read */
    static void promise04NoTokenAnywhere() {
        for (String[] line : LINES) {
            for (int slot = 0; slot < line.length; slot++) {
                for (String wrong : new String[] {"?", "A", "-1", "`", "1000", "99999"}) {
                    refused(upTo(line, slot) + wrong, upTo(line, slot).length(), 1);
                    refused("list q;" + upTo(line, slot) + wrong + " ;", 7 + upTo(line, slot).length(), 1);
                }
            }
        }
        refused("fee 1;?", 6, 1);
        refused("list a ?", 7, 1);
        refused("list a 1000", 7, 1);
    }

    /** "2 a TOKEN that can not stand there": each kind of token at each place of each line */
    static void promise04TokenOutOfPlace() {
        for (String[] line : LINES) {
            for (int slot = 0; slot < line.length; slot++) {
                for (String wrong : wrongIn(line, slot)) {
                    refused(upTo(line, slot) + wrong, upTo(line, slot).length(), 2);
                    refused(upTo(line, slot) + wrong + " ?", upTo(line, slot).length(), 2);
                    refused("list q;" + upTo(line, slot) + wrong + " ;", 7 + upTo(line, slot).length(), 2);
                }
            }
        }
        refused("list a 5", 7, 2);
        refused("list ;", 5, 2);
    }

    /** "2 or the end: the length": at each place of each line, also behind blanks */
    static void promise04EndOutOfPlace() {
        for (String[] line : LINES) {
            for (int slot = 1; slot < line.length; slot++) {
                String text = upTo(line, slot).trim();
                for (int blanks = 0; blanks < 3; blanks++) {
                    refused(text + " ".repeat(blanks), text.length() + blanks, 2);
                }
            }
        }
        refused("list a b", 8, 2);
    }

    private static String upTo(String[] line, int slot) {
        StringBuilder text = new StringBuilder();
        for (int i = 0; i < slot; i++) {
            text.append(line[i]).append(' ');
        }
        return text.toString();
    }

    private static String[] wrongIn(String[] line, int slot) {
        char due = line[slot].charAt(0);
        if (slot == 0 || line[0].equals("one") && slot == 1) {
            return new String[] {";", "5", "999", "q", "onee", "plane"};
        }
        if (due == ';') {
            return line[0].equals("list") ? new String[] {"5"} : new String[] {"5", "q", "law", "999"};
        }
        return due >= 'a' ? new String[] {";", "5", "999"} : new String[] {";", "q", ELEVEN};
    }

    /** "a word that begins no line": one that is a letter short, too long, or another */
    static void promise04WordThatBeginsNoLine() {
        for (String[] line : LINES) {
            String word = line[0];
            refused(word.substring(1) + " 1;", 0, 2);
            refused(word.substring(0, word.length() - 1) + " 1;", 0, 2);
            refused(word + "s 1;", 0, 2);
            refused("a" + word + " 1;", 0, 2);
            for (int i = 0; i < word.length(); i++) {
                char other = word.charAt(i) == 'z' ? 'a' : (char) (word.charAt(i) + 1);
                refused(word.substring(0, i) + other + word.substring(i + 1) + " 1;", 0, 2);
            }
        }
        refused("plain a 1 1;", 0, 2);
        refused("a".repeat(320), 0, 2);
        refused("fee 1;" + "a".repeat(314), 6, 2);
    }

    /** "is no K": the five kinds and nothing else */
    static void promise04WordThatIsNoKind() {
        String[] kinds = {"plain", "dead", "foreign", "mute", "twin"};
        for (int k = 0; k < 5; k++) {
            SameMan x = Check.told("one " + kinds[k] + " a 1 1;");
            Edge.due(kinds[k], x.one(0, 0), k);
            String word = kinds[k];
            refused("one " + word + "s a 1 1;", 4, 2);
            refused("one " + word.substring(0, word.length() - 1) + " a 1 1;", 4, 2);
            refused("one a" + word + " a 1 1;", 4, 2);
            for (int i = 0; i < word.length(); i++) {
                refused("one " + word.substring(0, i) + "z" + word.substring(i + 1) + " a 1 1;", 4, 2);
            }
        }
        refused("one one a 1 1;", 4, 2);
        refused("one " + "a".repeat(316), 4, 2);
    }

    /** "w: any word": the words of the text's own, too */
    static void promise04AnyWordIsAName() {
        taken("one plain plain 1 1;one dead one 1 1;list law fee letter one list known;", 3);
    }

    // ---- promise 4: bounds of numbers and words

    /** "3 a NUMBER out of its bounds": law */
    static void promise04BoundsOfLaw() {
        taken("law 0;", 1);
        taken("law 1;", 1);
        refused("law 2;", 4, 3);
        refused("law 999;", 4, 3);
    }

    /** fee */
    static void promise04BoundsOfFee() {
        refused("fee 0;", 4, 3);
        taken("fee 1;", 1);
        taken("fee 9;", 1);
        refused("fee 10;", 4, 3);
        refused("fee 999;", 4, 3);
        refused("fee 000;", 4, 3);
    }

    /** the WORTH of a LETTER, of each one */
    static void promise04BoundsOfWorth() {
        for (int l = 0; l < 26; l++) {
            String letter = "letter " + LETTERS.charAt(l);
            Edge.due("0", Check.told(letter + " 0;").worth(l), 0);
            Edge.due("40", Check.told(letter + " 40;").worth(l), 40);
            refused(letter + " 41;", 9, 3);
        }
        refused("letter a 999;", 9, 3);
    }

    /** DEBT, WEALTH */
    static void promise04BoundsOfMoney() {
        SameMan x = Check.told("one plain a 0 99;one plain a 99 0;");
        Edge.due("debt 0", x.one(0, 1), 0);
        Edge.due("wealth 99", x.one(0, 2), 99);
        Edge.due("debt 99", x.one(1, 1), 99);
        Edge.due("wealth 0", x.one(1, 2), 0);
        refused("one plain a 100 0;", 12, 3);
        refused("one plain a 999 0;", 12, 3);
        refused("one plain a 0 100;", 14, 3);
        refused("one plain a 0 999;", 14, 3);
        refused("one plain a 100 100;", 12, 3);
    }

    /** "known: a NAME of THE LIST (0 to 5), its SUM (0 to 999)" */
    static void promise04BoundsOfKnown() {
        taken("list a b c d e f;known 0 0;known 5 999;", 3);
        refused("list a b c d e f;known 6 0;", 23, 3);
        refused("list a b c d e f;known 999 0;", 23, 3);
        refused("known 6 0;", 6, 3);
    }

    /** "letter: a word of one LETTER", "3 a word that is too long (its first byte)" */
    static void promise04LetterOfOneLetter() {
        taken("letter a 1;", 1);
        refused("letter aa 1;", 7, 3);
        refused("letter ab 1;", 7, 3);
        refused("letter " + "a".repeat(313), 7, 3);
    }

    /** "one: NAME (10 LETTERS at most)" */
    static void promise04NameOfTenLetters() {
        Edge.due("one letter", Check.told("one plain a 0 0;").one(0, 3), 1);
        SameMan x = Check.told("one plain " + TEN + " 0 0;");
        Edge.due("ten letters", x.one(0, 3), 10);
        for (int i = 0; i < 10; i++) {
            Edge.due("letter " + i, x.one(0, 10 + i), i);
        }
        refused("one plain " + ELEVEN + " 0 0;", 10, 3);
        refused("one plain " + "z".repeat(310), 10, 3);
    }

    /** "list: NAMES more (10 LETTERS at most)", the first of a line and those behind */
    static void promise04ListedNameOfTenLetters() {
        SameMan x = Check.told("list " + TEN + " a " + TEN + ";");
        Edge.due("ten letters", x.listed(0, 0), 10);
        Edge.due("one letter", x.listed(1, 0), 1);
        Edge.due("ten letters", x.listed(2, 0), 10);
        for (int i = 0; i < 10; i++) {
            Edge.due("letter " + i, x.listed(2, 10 + i), i);
        }
        refused("list " + ELEVEN + ";", 5, 3);
        refused("list a " + ELEVEN + ";", 7, 3);
        refused("list a;list " + ELEVEN + ";", 12, 3);
        refused("list a b c d e " + ELEVEN + ";", 15, 3);
        refused("list " + "z".repeat(315), 5, 3);
    }

    // ---- promise 4: told twice, too many

    /** "4 law for the second time (its word)" */
    static void promise04LawTwice() {
        refused("law 1;law 1;", 6, 4);
        refused("law 0;law 0;", 6, 4);
        refused("law 0;fee 1; law 1;", 13, 4);
        refused("law 0;law", 6, 4);
        refused("law 0;law?", 6, 4);
        refused("law 0;law 2;", 6, 4);
    }

    /** "4 fee for the second time (its word)" */
    static void promise04FeeTwice() {
        refused("fee 1;fee 1;", 6, 4);
        refused("fee 2;law 1; fee 1;", 13, 4);
        refused("fee 2;fee", 6, 4);
        refused("fee 2;fee?", 6, 4);
        refused("fee 2;fee 0;", 6, 4);
    }

    /** "4 a LETTER whose WORTH is told already (it)", of each one; all 26 may be told once */
    static void promise04LetterTwice() {
        StringBuilder all = new StringBuilder();
        for (int l = 0; l < 26; l++) {
            char c = LETTERS.charAt(l);
            refused("letter " + c + " 1;letter " + c + " 2;", 18, 4);
            refused("letter " + c + " " + (l + 1) + ";letter " + c, l < 9 ? 18 : 19, 4);
            all.append("letter ").append(c).append(" 5;");
        }
        taken(all.toString(), 26);
        refused(all + "letter a 5;", 26 * 11 + 7, 4);
        refused(all + "letter z", 26 * 11 + 7, 4);
        refused("letter b 1;letter b?", 18, 4);
        refused("letter b 1;letter b 41;", 18, 4);
        refused("letter b 1;letter bb 1;", 18, 3);
    }

    /** "5 the 9th one (its word)" */
    static void promise04NinthOne() {
        String eight = "one mute a 1 1;".repeat(8);
        SameMan x = Check.told(eight);
        Edge.due("people", x.rule(0), 8);
        refused(eight + "one mute a 1 1;", 120, 5);
        refused(eight + "  one", 122, 5);
        refused(eight + "one?", 120, 5);
        refused(eight + "one king " + ELEVEN + " 100 100;", 120, 5);
        taken(eight + "list a;", 9);
    }

    /** "5 the 7th known (its word)" */
    static void promise04SeventhKnown() {
        String six = "list a;" + "known 0 1;".repeat(6);
        SameMan x = Check.told(six);
        Edge.due("known", x.count(0), 6);
        refused(six + "known 0 1;", 67, 5);
        refused(six + " known", 68, 5);
        refused(six + "known?", 67, 5);
        refused(six + "known 6 1000;", 67, 5);
        taken(six + "law 1;", 8);
    }

    /** "5 the 7th NAME of THE LIST (it, however long)", by one line and by several */
    static void promise04SeventhListed() {
        SameMan x = Check.told("list a b c d e f;");
        Edge.due("names", x.rule(3), 6);
        Edge.due("names", Check.told("list a;list b c;list d e f;").rule(3), 6);
        refused("list a b c d e f g;", 17, 5);
        refused("list a b c d e f g?", 17, 5);
        refused("list a b c d e f " + ELEVEN + ";", 17, 5);
        refused("list a b c d e f " + "a".repeat(303), 17, 5);
        refused("list a b c d e f;list g;", 22, 5);
        refused("list a;list b;list c;list d;list e;list f;list g", 47, 5);
    }

    /** The 7th is no NAME if it is no word: then it can not stand there. */
    static void promise04SeventhListedIsNoWord() {
        refused("list a b c d e f 7;", 17, 2);
        refused("list a b c d e f ?;", 17, 1);
        refused("list a b c d e f 1000;", 17, 1);
        refused("list a b c d e f", 16, 2);
        refused("list a b c d e f;list;", 21, 2);
        refused("list a b c d e f;list 1;", 22, 2);
    }

    /** "Behind all (the length): 6 a NAME of THE LIST that there is not" */
    static void promise04KnownThatIsNotListed() {
        refused("known 0 1;", 10, 6);
        refused("known 0 1;   ", 13, 6);
        String list = "list";
        for (int names = 1; names <= 6; names++) {
            list += " a";
            String text = list + ";known " + (names - 1) + " 1;";
            taken(text, 2);
            if (names < 6) {
                String above = list + ";known " + names + " 1;";
                refused(above, above.length(), 6);
            }
        }
    }

    /** "Behind all": THE LIST may come behind, and every other FAULT is met ahead of it */
    static void promise04KnownAheadOfTheList() {
        taken("known 0 1;list a;", 2);
        taken("known 5 1;list a b c;list d e f;", 3);
        refused("known 1 1;list a;", 17, 6);
        refused("known 5 1;?", 10, 1);
        refused("known 5 1;law", 13, 2);
        refused("known 5 1;law 2;", 14, 3);
        refused("known 5 1;fee 1;fee 1;", 16, 4);
        refused("known 0 1;list a;known 1 1;list b;known 2 1;", 44, 6);
    }

    /** "the first met as it is read (a TOKEN is read when the one before has been taken)" */
    static void promise04FirstMet() {
        refused("q?", 0, 2);
        refused("q 1000", 0, 2);
        refused("5?", 0, 2);
        refused(";?", 0, 2);
        refused("law 2?", 4, 3);
        refused("law 2 1000", 4, 3);
        refused("fee 10?", 4, 3);
        refused("law a?", 4, 2);
        refused("law;?", 3, 2);
        refused("letter ab?", 7, 3);
        refused("letter ab 1000;", 7, 3);
        refused("letter a 41?", 9, 3);
        refused("one king?", 4, 2);
        refused("one king " + ELEVEN + " 1000 1000;", 4, 2);
        refused("one plain " + ELEVEN + "?", 10, 3);
        refused("one plain a 100?", 12, 3);
        refused("one plain a 1 100?", 14, 3);
        refused("list " + ELEVEN + "?", 5, 3);
        refused("known 6?", 6, 3);
        refused("known 6 1000;", 6, 3);
        refused("known 0 1000;", 8, 1);
        refused("law 1000 ?", 4, 1);
    }

    // ---- promise 5

    /** "The FAULT of the latest text(); 0": each one there is, then none */
    static void promise05EachFaultThenNone() {
        String[] texts = {"", "?", "q", "law 2;", "law 1;law 1;", "list a b c d e f g;", "known 0 1;", "", "law 1;"};
        int[] faults = {0, 1, 2, 3, 4, 5, 6, 0, 0};
        SameMan x = new SameMan();
        Edge.due("none yet", x.fault(), 0);
        for (int i = 0; i < texts.length; i++) {
            Check.tape(x, texts[i]);
            x.text();
            Edge.due("fault of " + texts[i], x.fault(), faults[i]);
            Edge.due("asked again", x.fault(), faults[i]);
        }
    }

    /** "of the latest text()": what other calls refuse is none of it */
    static void promise05OfTextAlone() {
        SameMan x = new SameMan();
        Check.tape(x, "?");
        x.text();
        x.end(-1);
        x.letter(26, 0);
        x.lay(0, 0, 0);
        x.read(0, 0, 0, 1);
        x.sheet(0, 0, -1);
        x.feed(0);
        x.end(0);
        x.keep(0);
        x.back(0);
        Edge.due("fault", x.fault(), 1);
        Edge.leaves("fault()", Edge::some, SameMan::fault, 3);
    }
}
