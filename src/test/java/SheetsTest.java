/** Promises 36 to 42: images, sheets. */
public final class SheetsTest {
    public static void main(String[] args) {
        images();
        sheets();
        lanes();
        read();
        readRefused();
        readTorn();
        counts();
        Check.finish("SheetsTest");
    }

    private static void images() {
        SameMan x = Check.told("law 1;fee 4;letter b 7;one twin ab 1 2;one dead c 3 4;list a b;known 0 5;");
        Check.due("keep", x.keep(2), SameMan.BAD);
        Check.due("keep", x.keep(-1), SameMan.BAD);
        Check.due("back", x.back(2), SameMan.BAD);
        Check.due("back", x.back(-1), SameMan.BAD);
        Check.due("back", x.back(0), SameMan.STATE);
        Check.due("keep", x.keep(0), 0);
        Check.due("images", x.count(1), 1);
        x.law(0);
        x.fee(9);
        x.letter(0, 33);
        x.letter(1, 0);
        x.letter(25, 33);
        x.become(0, 0);
        x.become(1, 0);
        x.wed(0, 1);
        x.debt(0, 50);
        x.wealth(1, 60);
        x.bear(1);
        x.know(1, 8);
        Check.due("keep", x.keep(1), 0);
        Check.due("keep", x.keep(1), 1);
        Check.due("images", x.count(1), 2);
        Check.due("back", x.back(0), 2);
        Check.due("law", x.rule(1), 1);
        Check.due("fee", x.rule(2), 4);
        Check.due("worth", x.worth(0), 1);
        Check.due("worth", x.worth(1), 7);
        Check.due("worth", x.worth(25), 26);
        Check.due("kind", x.one(0, 0), 4);
        Check.due("debt", x.one(0, 1), 1);
        Check.due("wealth", x.one(1, 2), 4);
        Check.due("name", x.one(0, 3), 2);
        Check.due("name", x.one(1, 10), 2);
        Check.due("known is no part of it", x.count(0), 2);
        Check.due("list", x.rule(3), 2);
        x.debt(0, 77);
        Check.due("the image stays", x.back(0), 2);
        Check.due("the image is not the land", x.one(0, 1), 1);
        Check.due("back", x.back(1), 3);
        Check.due("child", x.one(2, 10), 1);
        Check.due("name", x.one(1, 3), 3);
        Check.due("debt", x.one(0, 1), 50);
        x.debt(0, 51);
        Check.due("back", x.back(1), 3);
        Check.due("debt", x.one(0, 1), 50);
    }

    private static void sheets() {
        SameMan x = new SameMan();
        Check.due("sheet", x.sheet(-1, 0, 1), SameMan.BAD);
        Check.due("sheet", x.sheet(4, 0, 1), SameMan.BAD);
        Check.due("sheet", x.sheet(0, 3, 1), SameMan.BAD);
        Check.due("sheet", x.sheet(0, -1, 1), SameMan.BAD);
        Check.due("sheet", x.sheet(0, 0, 41), SameMan.BAD);
        Check.due("sheet", x.sheet(0, 3, -1), SameMan.BAD);
        Check.due("sheet", x.sheet(4, 0, -1), SameMan.BAD);
        Check.due("sheet", x.sheet(0, 0, -1), -14);
        Check.due("sheet", x.sheet(0, 0, Integer.MIN_VALUE), -14);
        Check.due("still nothing", x.count(3), SameMan.NONE);
        Check.due("sheet", x.sheet(0, 0, 0), 1);
        Check.due("no cells", x.count(3), 0);
        Check.due("lay", x.lay(0, 0, 1), -12);
        Check.due("sheet", x.sheet(0, 2, 40), 1);
        Check.due("cells", x.count(3), 40);
        Check.due("lay", x.lay(0, 39, 1), 1);
        Check.due("lay", x.lay(0, 40, 1), -12);
        Check.due("lay", x.lay(0, -1, 1), -12);
        Check.due("lay", x.lay(0, Integer.MAX_VALUE, 1), -12);
        Check.due("lay", x.lay(4, 0, 1), SameMan.BAD);
        Check.due("lay", x.lay(-1, 0, 1), SameMan.BAD);
        Check.due("lay on nothing", x.lay(1, 99, 1), -11);
        Check.due("a size below 0 leaves it", x.sheet(0, 0, -1), -14);
        Check.due("cells", x.count(3), 40);
        for (int i = 0; i < 40; i++) {
            x.lay(0, i, 9);
        }
        x.sheet(0, 2, 40);
        x.letter(0, 5);
        Check.due("a new row", x.read(0, 2, 0, 20), 20);
        Check.due("of cells 0", x.worth(0), 0);
        Check.due("of cells 0", x.worth(9), 10);
    }

    private static void lanes() {
        int[] values = {5, 261, 65541, 65536 * 3 + 256 + 5};
        boolean[][] fits = {{true, true, true, true}, {true, false, true, false}, {true, false, false, false}};
        for (int lane = 0; lane < 3; lane++) {
            for (int i = 0; i < values.length; i++) {
                SameMan x = new SameMan();
                x.sheet(3, lane, 2);
                x.lay(3, 1, values[i]);
                Check.due("lane " + lane + " " + values[i], x.read(3, lane, 0, 1), fits[lane][i] ? 1 : -20);
                Check.due("worth", x.worth(0), fits[lane][i] ? 5 : 1);
            }
        }
        SameMan x = new SameMan();
        x.sheet(0, 0, 2);
        x.lay(0, 0, 256 - 1);
        Check.due("the highest bit is below 0", x.read(0, 0, 0, 1), -20);
    }

    private static SameMan filled(int lane, int... cells) {
        SameMan x = new SameMan();
        x.sheet(2, lane, cells.length);
        for (int i = 0; i < cells.length; i++) {
            x.lay(2, i, cells[i]);
        }
        return x;
    }

    private static void read() {
        SameMan x = filled(1, 99, 3, 10, 4, 0, 3, 11, 25, 40);
        Check.due("read", x.read(2, 1, 1, 4), 4);
        Check.due("torn", x.torn(), 0);
        Check.due("the latest counts", x.worth(3), 11);
        Check.due("worth", x.worth(4), 0);
        Check.due("worth", x.worth(25), 40);
        Check.due("one at the end", x.read(2, 1, 7, 1), 1);
        Check.due("none", x.read(2, 1, 0, 0), 0);
        Check.due("torn", x.torn(), 0);
        int[][] wrong = {{-1, 1, 0, 1}, {4, 1, 0, 1}, {2, 3, 0, 1}, {2, -1, 0, 1}, {2, 1, 0, 21}, {2, 1, 0, -1}};
        for (int[] w : wrong) {
            Check.due("read", x.read(w[0], w[1], w[2], w[3]), SameMan.BAD);
        }
        int[] most = new int[40];
        for (int i = 0; i < 20; i++) {
            most[2 * i] = i;
            most[2 * i + 1] = 40 - i;
        }
        x = filled(0, most);
        Check.due("read 20", x.read(2, 0, 0, 20), 20);
        Check.due("worth", x.worth(0), 40);
        Check.due("worth", x.worth(19), 21);
        Check.due("read 20 from 2", x.read(2, 0, 2, 20), 19);
        Check.due("torn", x.torn(), 2);
    }

    private static void readRefused() {
        SameMan x = filled(2, 0, 9, 1, 9, 2, 41, 26, 0);
        Check.due("read", x.read(2, 2, 0, 3), -22);
        Check.due("none came", x.worth(0), 1);
        Check.due("read", x.read(2, 2, 6, 9), -20);
        Check.due("read", x.read(2, 2, 0, 2), 2);
        Check.due("worth", x.worth(1), 9);
        Check.due("bad behind the end is not whole", x.read(2, 2, 7, 1), 0);
        Check.due("torn", x.torn(), 2);
        Check.due("refused", x.read(2, 2, 4, 1), -20);
        Check.due("torn stays", x.torn(), 2);
        Check.due("refused", x.read(2, 2, 4, 21), SameMan.BAD);
        Check.due("torn stays", x.torn(), 2);
        x = filled(2, -1, 9);
        Check.due("letter -1", x.read(2, 2, 0, 1), -20);
        x = filled(2, 9, -1);
        Check.due("worth -1", x.read(2, 2, 0, 1), -20);
    }

    private static void readTorn() {
        SameMan x = filled(1, 0, 9, 1, 9, 2);
        Check.due("half a pair", x.read(2, 1, 0, 5), 2);
        Check.due("torn", x.torn(), 2);
        Check.due("those ahead came", x.worth(1), 9);
        Check.due("the half did not", x.worth(2), 3);
        Check.due("another lane", x.read(2, 0, 0, 1), 0);
        Check.due("torn", x.torn(), 3);
        Check.due("another lane, an index too", x.read(2, 2, -5, 1), 0);
        Check.due("torn", x.torn(), 3);
        for (int lane = 0; lane <= 2; lane++) {
            Check.due("nothing, taken as lane " + lane, x.read(0, lane, -5, 1), 0);
            Check.due("torn", x.torn(), 1);
        }
        Check.due("nothing, none read", x.read(0, 0, 0, 0), 0);
        Check.due("torn", x.torn(), 0);
        for (int lane = 0; lane <= 2; lane++) {
            x.read(2, 1, 0, 5);
            Check.due("torn", x.torn(), 2);
            Check.due("taken as lane " + lane + ", none read", x.read(2, lane, 0, 0), 0);
            Check.due("none is refused where none is read", x.torn(), 0);
        }
        x.sheet(1, 0, 0);
        Check.due("another lane without cells, none read", x.read(1, 1, 0, 0), 0);
        Check.due("torn", x.torn(), 0);
        Check.due("another lane without cells", x.read(1, 1, 0, 1), 0);
        Check.due("torn", x.torn(), 3);
        int[] far = {-1, -2, 5, 40, Integer.MAX_VALUE, Integer.MAX_VALUE - 1, Integer.MIN_VALUE};
        for (int f : far) {
            x.read(2, 1, 0, 0);
            Check.due("read from " + f, x.read(2, 1, f, 20), 0);
            Check.due("torn", x.torn(), 2);
        }
        Check.due("none read from afar", x.read(2, 1, 99, 0), 0);
        Check.due("torn", x.torn(), 0);
    }

    private static void counts() {
        SameMan x = Check.told("letter a 40;letter z 0;one plain abc 0 0;one dead zzzz 0 0;list a;known 0 1;known 0 2;");
        x.keep(1);
        x.feed(0);
        x.sheet(0, 0, 7);
        int[] due = {2, 1, 8, 7, 7, 351 + 39 - 26};
        for (int what = 0; what < due.length; what++) {
            Check.due("count " + what, x.count(what), due[what]);
        }
        Check.due("count", x.count(6), SameMan.BAD);
        Check.due("count", x.count(-1), SameMan.BAD);
    }
}
