/** Promises 36 to 42 at their bounds: images, sheets. */
public final class SheetsEdgesTest {
    public static void main(String[] args) throws IllegalAccessException {
        Edge.runAll(SheetsEdgesTest.class, 36, 42);
    }

    /** SHEET 2 of a lane with these cells, in a land that is new but for it. */
    private static SameMan filled(int lane, int... cells) {
        SameMan x = new SameMan();
        Edge.row(x, 2, lane, cells);
        return x;
    }

    /** As many pairs as a sheet has room for: letter i gets the worth 40 less i. */
    private static int[] twentyPairs() {
        int[] cells = new int[40];
        for (int i = 0; i < 20; i++) {
            cells[2 * i] = i;
            cells[2 * i + 1] = 40 - i;
        }
        return cells;
    }

    // ---- promise 36

    /** "whether there was one (1, 0)", of each IMAGE by itself */
    static void promise36FirstAndAgain() {
        SameMan x = new SameMan();
        Edge.due("keep(0)", x.keep(0), 0);
        Edge.due("images", x.count(1), 1);
        Edge.due("keep(1)", x.keep(1), 0);
        Edge.due("images", x.count(1), 2);
        Edge.due("keep(0) again", x.keep(0), 1);
        Edge.due("keep(1) again", x.keep(1), 1);
        Edge.due("images", x.count(1), 2);
    }

    /** "IMAGE k is PEOPLE, WORTHS, LAW, FEE": of nobody, of eight */
    static void promise36OfNobodyAndOfEight() {
        SameMan x = Check.told("list a;");
        x.keep(0);
        for (int i = 0; i < 8; i++) {
            x.bear(0);
        }
        x.keep(1);
        Edge.due("back to nobody", x.back(0), 0);
        Edge.due("people", x.rule(0), 0);
        Edge.due("no one", x.one(0, 0), SameMan.BAD);
        Edge.due("back to eight", x.back(1), 8);
        Edge.due("the 8th", x.one(7, 3), 1);
        Edge.due("the 9th", x.bear(0), SameMan.FULL);
    }

    /** A later keep() is in place of the one before. */
    static void promise36InPlaceOfTheOneBefore() {
        SameMan x = new SameMan();
        x.fee(2);
        x.keep(0);
        x.fee(3);
        x.keep(0);
        x.fee(4);
        x.back(0);
        Edge.due("fee", x.rule(2), 3);
    }

    /** keep() leaves all but that IMAGE. */
    static void promise36KeepChangesNothingElse() {
        Edge.sameBut("IMAGE 0", "keep(0)", () -> {
            SameMan x = Edge.some();
            x.keep(0);
            return x;
        }, Edge::some);
    }

    /** "BAD": k is none of 0, 1 */
    static void promise36Bad() {
        Edge.leavesForEach("keep", Edge::some, Edge.outside(0, 1), k -> x -> x.keep(k), SameMan.BAD);
        Edge.leavesForEach("keep", SameMan::new, Edge.outside(0, 1), k -> x -> x.keep(k), SameMan.BAD);
    }

    // ---- promise 37

    /** "All is as IMAGE k": PEOPLE, WORTHS, LAW, FEE at their ends */
    static void promise37AllIsAsItWas() {
        SameMan x = Check.told("law 1;fee 9;letter a 40;letter z 0;one twin ab 99 98;one dead c 0 1;");
        x.keep(0);
        String before = Edge.land(x);
        x.law(0);
        x.fee(1);
        for (int l = 0; l < 26; l++) {
            x.letter(l, 20);
        }
        x.become(1, 3);
        x.wed(0, 1);
        x.debt(0, 0);
        x.wealth(1, 99);
        Edge.due("back", x.back(0), 2);
        Edge.due("all is as it was", Edge.land(x).equals(before) ? 1 : 0, 1);
    }

    /** IMAGES hold nothing of THE LIST, KNOWN, THE TAPE, SHEETS. */
    static void promise37WhatIsNoPartOfIt() {
        SameMan x = Check.told("list a b;known 0 1;");
        x.keep(0);
        x.know(1, 2);
        x.feed(0);
        x.sheet(0, 0, 4);
        x.read(0, 0, 4, 1);
        Edge.due("back", x.back(0), 0);
        Edge.due("known", x.count(0), 2);
        Edge.due("list", x.rule(3), 2);
        Edge.due("bytes", x.count(2), 8);
        Edge.due("cells", x.count(3), 4);
        Edge.due("torn", x.torn(), 2);
    }

    /** The IMAGE stays: back() as often as one likes, and the other one is another. */
    static void promise37AgainAndAgain() {
        SameMan x = Check.told("one plain a 5 0;");
        x.keep(0);
        x.debt(0, 6);
        x.keep(1);
        for (int i = 0; i < 3; i++) {
            Edge.due("back(0)", x.back(0), 1);
            Edge.due("debt", x.one(0, 1), 5);
            x.debt(0, 7);
            Edge.due("back(1)", x.back(1), 1);
            Edge.due("debt", x.one(0, 1), 6);
            x.debt(0, 8);
            Edge.due("images", x.count(1), 2);
        }
    }

    /** "STATE: there is none": none yet, the other one alone, gone by a text */
    static void promise37NoneThere() {
        Edge.leaves("back(0)", SameMan::new, x -> x.back(0), SameMan.STATE);
        Edge.leaves("back(1)", SameMan::new, x -> x.back(1), SameMan.STATE);
        Edge.Maker firstAlone = () -> {
            SameMan x = Check.told("one plain a 5 0;");
            x.keep(0);
            return x;
        };
        Edge.leaves("back(1)", firstAlone, x -> x.back(1), SameMan.STATE);
        Edge.Maker gone = () -> {
            SameMan x = Edge.some();
            x.text();
            return x;
        };
        Edge.leaves("back(0) behind a text", gone, x -> x.back(0), SameMan.STATE);
        Edge.leaves("back(1) behind a text", gone, x -> x.back(1), SameMan.STATE);
    }

    /** "BAD": k is none of 0, 1; ahead of STATE */
    static void promise37Bad() {
        Edge.leavesForEach("back", Edge::some, Edge.outside(0, 1), k -> x -> x.back(k), SameMan.BAD);
        Edge.leavesForEach("back", SameMan::new, Edge.outside(0, 1), k -> x -> x.back(k), SameMan.BAD);
    }

    // ---- promise 38

    /** "SHEETS 0 to 3", "lane 0, 1, 2", "0 to 40 CELLS": each with each */
    static void promise38EachSheetAndLane() {
        for (int k = 0; k < 4; k++) {
            for (int lane = 0; lane < 3; lane++) {
                for (int n : new int[] {0, 1, 39, 40}) {
                    SameMan x = new SameMan();
                    Edge.due("sheet", x.sheet(k, lane, n), 1);
                    Edge.due("count(3)", x.count(3), k == 0 ? n : SameMan.NONE);
                    Edge.due("the last cell", x.lay(k, n - 1, 0), n == 0 ? -12 : 1);
                    Edge.due("behind it", x.lay(k, n, 0), -12);
                    x.read(k, lane, 0, 1);
                    Edge.due("its lane", x.torn(), n < 2 ? 2 : 0);
                    x.read(k, (lane + 1) % 3, 0, 1);
                    Edge.due("not another", x.torn(), 3);
                }
            }
        }
    }

    /** "a new row of CELLS 0": in place of the one before, longer or shorter, of any lane */
    static void promise38NewRow() {
        SameMan x = filled(0, twentyPairs());
        Edge.due("shorter", x.sheet(2, 0, 2), 1);
        Edge.due("read", x.read(2, 0, 0, 2), 1);
        Edge.due("a is 0", x.worth(0), 0);
        Edge.due("longer", x.sheet(2, 2, 40), 1);
        x.letter(0, 9);
        Edge.due("read", x.read(2, 2, 0, 20), 20);
        Edge.due("a is 0", x.worth(0), 0);
        Edge.due("b is as it was", x.worth(1), 2);
        Edge.due("no other lane", x.read(2, 0, 0, 1), 0);
        Edge.due("torn", x.torn(), 3);
        for (int n = 2; n <= 40; n += 2) {
            int[] cells = new int[40];
            java.util.Arrays.fill(cells, 9);
            x = filled(1, cells);
            x.sheet(2, 1, n);
            Edge.due("read all of " + n, x.read(2, 1, 0, n / 2), n / 2);
            Edge.due("a is 0", x.worth(0), 0);
            Edge.due("j is as it was", x.worth(9), 10);
        }
    }

    /** "BAD": no such SHEET, no such lane, "also n above 40" */
    static void promise38Bad() {
        Edge.leavesForEach("k", Edge::some, Edge.outside(0, 3), k -> x -> x.sheet(k, 0, 1), SameMan.BAD);
        Edge.leavesForEach("lane", Edge::some, Edge.outside(0, 2), lane -> x -> x.sheet(0, lane, 1), SameMan.BAD);
        Edge.leavesForEach("n", Edge::some, new int[] {41, 42, Integer.MAX_VALUE}, n -> x -> x.sheet(0, 0, n), SameMan.BAD);
        Edge.leavesForEach("n", SameMan::new, new int[] {41, Integer.MAX_VALUE}, n -> x -> x.sheet(3, 2, n), SameMan.BAD);
    }

    /** "-10 - 4": below 0 CELLS; the row before stays, and nothing stays nothing */
    static void promise38BelowNothing() {
        int[] sizes = {-1, -40, Integer.MIN_VALUE};
        Edge.leavesForEach("a row", Edge::some, sizes, n -> x -> x.sheet(0, 0, n), -14);
        Edge.leavesForEach("nothing", SameMan::new, sizes, n -> x -> x.sheet(0, 2, n), -14);
    }

    /** "the first that fits": BAD goes ahead of a size below 0 */
    static void promise38BadAheadOfSize() {
        Edge.leavesForEach("k", Edge::some, Edge.outside(0, 3), k -> x -> x.sheet(k, 0, -1), SameMan.BAD);
        Edge.leavesForEach("lane", Edge::some, Edge.outside(0, 2), lane -> x -> x.sheet(0, lane, -1), SameMan.BAD);
    }

    // ---- promise 39

    /** "CELL i": the first, the last, on either side of them */
    static void promise39FirstAndLastCell() {
        for (int lane = 0; lane < 3; lane++) {
            SameMan x = new SameMan();
            x.sheet(3, lane, 40);
            Edge.due("cell 0", x.lay(3, 0, 25), 1);
            Edge.due("cell 1", x.lay(3, 1, 7), 1);
            Edge.due("cell 38", x.lay(3, 38, 24), 1);
            Edge.due("cell 39", x.lay(3, 39, 8), 1);
            Edge.due("read the first", x.read(3, lane, 0, 1), 1);
            Edge.due("worth", x.worth(25), 7);
            Edge.due("read the last", x.read(3, lane, 38, 1), 1);
            Edge.due("worth", x.worth(24), 8);
        }
    }

    /** "INDEX": below 0, at how many there are, in a row without CELLS */
    static void promise39Index() {
        Edge.leavesForEach("lay", Edge::some, Edge.outside(0, 5), i -> x -> x.lay(0, i, 1), -12);
        Edge.leavesForEach("lay", Edge::some, Edge.outside(0, 3), i -> x -> x.lay(1, i, 1), -12);
        Edge.leavesForEach("lay", Edge::full, Edge.outside(0, 39), i -> x -> x.lay(3, i, 1), -12);
        Edge.Maker noCells = () -> {
            SameMan x = new SameMan();
            x.sheet(0, 1, 0);
            return x;
        };
        Edge.leavesForEach("no cells", noCells, new int[] {0, -1, 1}, i -> x -> x.lay(0, i, 1), -12);
    }

    /** A cell of a longer row that was there before is none. */
    static void promise39IndexOfBefore() {
        SameMan x = filled(2, twentyPairs());
        x.sheet(2, 2, 3);
        Edge.due("cell 2", x.lay(2, 2, 1), 1);
        Edge.due("cell 3", x.lay(2, 3, 1), -12);
        Edge.due("cell 39", x.lay(2, 39, 1), -12);
    }

    /** "NULL": nothing, whatever the place; ahead of INDEX */
    static void promise39Null() {
        Edge.leavesForEach("lay", Edge::some, new int[] {0, -1, 39, 40, Integer.MIN_VALUE, Integer.MAX_VALUE},
                i -> x -> x.lay(3, i, 1), -11);
    }

    /** "BAD: k": ahead of all */
    static void promise39Bad() {
        Edge.leavesForEach("k", Edge::some, Edge.outside(0, 3), k -> x -> x.lay(k, 0, 1), SameMan.BAD);
        Edge.leavesForEach("k", Edge::some, Edge.outside(0, 3), k -> x -> x.lay(k, -1, 1), SameMan.BAD);
        Edge.leavesForEach("k", SameMan::new, Edge.outside(0, 3), k -> x -> x.lay(k, 0, 1), SameMan.BAD);
    }

    /** "its lowest bits": 8, 16, 32 of them, the highest of which is a sign */
    static void promise39LowestBits() {
        int[] values = {5, 127, 128 + 5, 256 + 5, -256 + 5, -1, 255, 32768 + 5, 65536 + 5, -65536 + 5, 65535,
            1 << 30 | 5, Integer.MIN_VALUE + 5, Integer.MIN_VALUE, Integer.MAX_VALUE};
        for (int v : values) {
            int[] cells = {(byte) v, (short) v, v};
            for (int lane = 0; lane < 3; lane++) {
                SameMan x = filled(lane, 0, v);
                boolean worth = cells[lane] >= 0 && cells[lane] <= 40;
                Edge.due("read " + v + " of lane " + lane, x.read(2, lane, 0, 1), worth ? 1 : -20);
                Edge.due("worth by " + v, x.worth(0), worth ? cells[lane] : 1);
                x = filled(lane, v, 0);
                boolean letter = cells[lane] >= 0 && cells[lane] <= 25;
                Edge.due("read " + v + " as a letter", x.read(2, lane, 0, 1), letter ? 1 : -20);
                Edge.due("its worth", x.count(5), letter ? 351 - cells[lane] - 1 : 351);
            }
        }
    }

    // ---- promise 40

    /** "n (0 to 20)": none, one, twenty */
    static void promise40NoneOneTwenty() {
        for (int lane = 0; lane < 3; lane++) {
            SameMan x = filled(lane, twentyPairs());
            Edge.due("none", x.read(2, lane, 0, 0), 0);
            Edge.due("worths", x.count(5), 351);
            Edge.due("one", x.read(2, lane, 0, 1), 1);
            Edge.due("worths", x.count(5), 351 - 1 + 40);
            Edge.due("twenty", x.read(2, lane, 0, 20), 20);
            for (int l = 0; l < 26; l++) {
                Edge.due("worth " + l, x.worth(l), l < 20 ? 40 - l : l + 1);
            }
            Edge.due("torn", x.torn(), 0);
        }
    }

    /** "n (0 to 20)": BAD beyond, of a row and of nothing */
    static void promise40CountOutOfBounds() {
        Edge.leavesForEach("n", Edge::some, Edge.outside(0, 20), n -> x -> x.read(0, 0, 0, n), SameMan.BAD);
        Edge.leavesForEach("n of nothing", Edge::some, Edge.outside(0, 20), n -> x -> x.read(3, 0, 0, n), SameMan.BAD);
        Edge.leavesForEach("n of another lane", Edge::some, Edge.outside(0, 20), n -> x -> x.read(0, 1, 0, n), SameMan.BAD);
    }

    /** "BAD: k, lane": also where none is to be read */
    static void promise40NoSuchSheetOrLane() {
        for (int n = 0; n < 2; n++) {
            int pairs = n;
            Edge.leavesForEach("k", Edge::some, Edge.outside(0, 3), k -> x -> x.read(k, 0, 0, pairs), SameMan.BAD);
            Edge.leavesForEach("lane", Edge::some, Edge.outside(0, 2), lane -> x -> x.read(0, lane, 0, pairs), SameMan.BAD);
            Edge.leavesForEach("lane of nothing", Edge::some, Edge.outside(0, 2), lane -> x -> x.read(3, lane, 0, pairs), SameMan.BAD);
        }
    }

    /** "two CELLS each from CELL f on": the last two are whole, the last one is not */
    static void promise40FirstAndLastCell() {
        SameMan x = filled(1, 9, 3, 4, 5, 6);
        int[] from = {-2, -1, 0, 1, 2, 3, 4, 5, 6};
        int[] came = {0, 0, 1, 1, 1, 1, 0, 0, 0};
        for (int i = 0; i < from.length; i++) {
            Edge.due("from " + from[i], x.read(2, 1, from[i], 1), came[i]);
            Edge.due("torn from " + from[i], x.torn(), came[i] == 1 ? 0 : 2);
        }
        x = filled(1, 0, 3, 4, 5, 6);
        Edge.due("from 1", x.read(2, 1, 1, 2), 2);
        Edge.due("d is 4", x.worth(3), 4);
        Edge.due("f is 6", x.worth(5), 6);
    }

    /** From far off: an index never wraps around into the row. */
    static void promise40FromAfar() {
        int[] far = {Integer.MIN_VALUE, Integer.MIN_VALUE + 1, -40, -39, 40, 41, Integer.MAX_VALUE, Integer.MAX_VALUE - 1};
        for (int f : far) {
            for (int n : new int[] {1, 20}) {
                SameMan x = filled(2, twentyPairs());
                Edge.due("from " + f, x.read(2, 2, f, n), 0);
                Edge.due("torn", x.torn(), 2);
                Edge.due("worths", x.count(5), 351);
            }
        }
    }

    /** "those that were whole ahead come": 19 of 20, 2 and a half, none */
    static void promise40WholeAheadCome() {
        SameMan x = filled(0, twentyPairs());
        Edge.due("19", x.read(2, 0, 2, 20), 19);
        Edge.due("torn", x.torn(), 2);
        Edge.due("a did not", x.worth(0), 1);
        Edge.due("b came", x.worth(1), 39);
        Edge.due("t came", x.worth(19), 21);
        x = filled(0, 0, 9, 1, 9, 2);
        Edge.due("2 and a half", x.read(2, 0, 0, 3), 2);
        Edge.due("torn", x.torn(), 2);
        Edge.due("a", x.worth(0), 9);
        Edge.due("b", x.worth(1), 9);
        Edge.due("c did not", x.worth(2), 3);
        x = filled(0);
        Edge.due("of no cells", x.read(2, 0, 0, 1), 0);
        Edge.due("torn", x.torn(), 2);
    }

    /** "taken as of a lane": another lane is CAST, each of each; none comes; ahead of INDEX and of what is BAD */
    static void promise40AnotherLane() {
        for (int lane = 0; lane < 3; lane++) {
            for (int as = 0; as < 3; as++) {
                if (as != lane) {
                    for (int f : new int[] {0, -1, 99}) {
                        SameMan x = filled(lane, 0, 9);
                        Edge.due("lane " + lane + " as " + as, x.read(2, as, f, 1), 0);
                        Edge.due("torn", x.torn(), 3);
                        Edge.due("none came", x.worth(0), 1);
                    }
                    SameMan x = filled(lane, 26, 41);
                    Edge.due("what is BAD is not met", x.read(2, as, 0, 1), 0);
                    Edge.due("torn", x.torn(), 3);
                }
            }
        }
    }

    /** A row of nothing is NULL by each lane, from each cell. */
    static void promise40OfNothing() {
        for (int lane = 0; lane < 3; lane++) {
            for (int f : new int[] {0, -1, 40, Integer.MAX_VALUE}) {
                SameMan x = new SameMan();
                Edge.due("lane " + lane, x.read(1, lane, f, 20), 0);
                Edge.due("torn", x.torn(), 1);
            }
        }
    }

    /** Where none is to be read, the machine refuses none. */
    static void promise40NoneToBeRead() {
        for (int lane = 0; lane < 3; lane++) {
            for (int f : new int[] {0, -1, 40}) {
                SameMan x = Edge.some();
                Edge.due("torn before", x.torn(), 2);
                Edge.due("of a row", x.read(0, lane, f, 0), 0);
                Edge.due("torn", x.torn(), 0);
                x = Edge.some();
                Edge.due("of nothing", x.read(3, lane, f, 0), 0);
                Edge.due("torn", x.torn(), 0);
            }
        }
    }

    /** "as by letter()": LETTERS 0 to 25, WORTHS 0 to 40 */
    static void promise40LettersAndWorths() {
        int[][] pairs = {{0, 0}, {0, 40}, {25, 0}, {25, 40}, {12, 20}};
        for (int[] pair : pairs) {
            SameMan x = filled(2, pair);
            Edge.due("read", x.read(2, 2, 0, 1), 1);
            Edge.due("worth", x.worth(pair[0]), pair[1]);
        }
        SameMan x = filled(2, 3, 1, 3, 2, 3, 5);
        Edge.due("one letter three times", x.read(2, 2, 0, 3), 3);
        Edge.due("the last stays", x.worth(3), 5);
    }

    /** "-20 less i: the i-th, whole, is BAD": by its LETTER, by its WORTH */
    static void promise40PairThatIsBad() {
        int[][] pairs = {{-1, 5}, {26, 5}, {5, -1}, {5, 41}, {26, 41}, {Integer.MIN_VALUE, 5}, {Integer.MAX_VALUE, 5},
            {5, Integer.MIN_VALUE}, {5, Integer.MAX_VALUE}};
        for (int[] pair : pairs) {
            Edge.leaves("read " + pair[0] + " " + pair[1], () -> filled(2, pair), x -> x.read(2, 2, 0, 1), -20);
        }
    }

    /** "-20 less i": the first, the second, the 20th; "then none came" */
    static void promise40EachPairThatIsBad() {
        for (int i = 0; i < 20; i++) {
            int[] cells = twentyPairs();
            cells[2 * i + 1] = 41;
            SameMan x = filled(1, cells);
            Edge.due("the " + i + "th", x.read(2, 1, 0, 20), -20 - i);
            Edge.due("none came", x.count(5), 351);
            Edge.due("up to it", x.read(2, 1, 0, i), i);
            x = filled(1, cells);
            Edge.due("from it on", x.read(2, 1, 2 * i, 1), -20);
        }
        int[] late = twentyPairs();
        late[38] = 26;
        Edge.leaves("the 20th", () -> filled(0, late), x -> x.read(2, 0, 0, 20), -39);
    }

    /** "the first met": of two that are BAD the first; one that is BAD goes ahead of the row's end */
    static void promise40FirstMet() {
        SameMan x = filled(1, 0, 5, 26, 5, 0, 41, 3);
        Edge.due("of two", x.read(2, 1, 0, 3), -21);
        Edge.due("ahead of the end", x.read(2, 1, 0, 9), -21);
        Edge.due("the second alone", x.read(2, 1, 4, 1), -20);
        Edge.due("none came", x.worth(0), 1);
        Edge.due("torn", x.torn(), 0);
    }

    /** "whole": half of a pair that would be BAD is INDEX */
    static void promise40HalfIsNotBad() {
        SameMan x = filled(1, 0, 5, 26);
        Edge.due("read", x.read(2, 1, 0, 2), 1);
        Edge.due("torn", x.torn(), 2);
        Edge.due("a came", x.worth(0), 5);
        x = filled(1, 99);
        Edge.due("read", x.read(2, 1, 0, 1), 0);
        Edge.due("torn", x.torn(), 2);
    }

    /** A SHEET stays as it is when it is read. */
    static void promise40SheetStays() {
        SameMan x = filled(0, 1, 7);
        for (int i = 0; i < 3; i++) {
            x.letter(1, 0);
            Edge.due("read", x.read(2, 0, 0, 1), 1);
            Edge.due("worth", x.worth(1), 7);
        }
    }

    // ---- promise 41

    /** "The FAULT of the latest read(); 0": none yet, NULL, INDEX, CAST, none */
    static void promise41EachFault() {
        SameMan x = filled(1, 0, 5);
        Edge.due("none yet", x.torn(), 0);
        x.read(0, 1, 0, 1);
        Edge.due("NULL", x.torn(), 1);
        x.read(2, 1, 2, 1);
        Edge.due("INDEX", x.torn(), 2);
        x.read(2, 0, 0, 1);
        Edge.due("CAST", x.torn(), 3);
        Edge.due("asked again", x.torn(), 3);
        x.read(2, 1, 0, 1);
        Edge.due("none", x.torn(), 0);
    }

    /** "that came to an end": one that is BAD did not, nor one with a pair that is BAD */
    static void promise41OfReadsThatEnded() {
        int[] faultsBefore = {0, 1, 2, 3};
        for (int before : faultsBefore) {
            SameMan x = filled(1, 0, 5, 0, 41);
            x.read(before == 1 ? 0 : 2, before == 3 ? 0 : 1, before == 2 ? 4 : 0, 1);
            Edge.due("before", x.torn(), before);
            Edge.due("BAD k", x.read(4, 1, 0, 1), SameMan.BAD);
            Edge.due("BAD lane", x.read(2, 3, 0, 1), SameMan.BAD);
            Edge.due("BAD n", x.read(2, 1, 0, 21), SameMan.BAD);
            Edge.due("a pair that is BAD", x.read(2, 1, 0, 2), -21);
            Edge.due("torn", x.torn(), before);
        }
    }

    /** "of the latest read()": sheet() and lay() have FAULTS of their own */
    static void promise41OfReadAlone() {
        SameMan x = filled(1, 0, 5);
        x.read(2, 0, 0, 1);
        Edge.due("SIZE", x.sheet(2, 0, -1), -14);
        Edge.due("NULL", x.lay(0, 0, 0), -11);
        Edge.due("INDEX", x.lay(2, 2, 0), -12);
        x.sheet(2, 0, 2);
        x.lay(2, 0, 0);
        x.keep(0);
        x.back(0);
        x.text();
        Edge.due("torn", x.torn(), 3);
        Edge.leaves("torn()", Edge::some, SameMan::torn, 2);
    }

    // ---- promise 42

    /** "0 KNOWN": none, all 6 */
    static void promise42Known() {
        Edge.due("none", new SameMan().count(0), 0);
        Edge.due("six", Edge.full().count(0), 6);
    }

    /** "1 IMAGES": none, either, both */
    static void promise42Images() {
        for (int k = 0; k < 2; k++) {
            SameMan x = new SameMan();
            Edge.due("none", x.count(1), 0);
            x.keep(k);
            Edge.due("one", x.count(1), 1);
            x.keep(1 - k);
            Edge.due("both", x.count(1), 2);
        }
    }

    /** "2 bytes on THE TAPE": none, 320 */
    static void promise42Bytes() {
        Edge.due("none", new SameMan().count(2), 0);
        SameMan x = Edge.full();
        Edge.due("all", x.count(2), 320);
        x.end(319);
        Edge.due("one less", x.count(2), 319);
    }

    /** "3 CELLS of SHEET 0 (NONE: nothing)": a row without CELLS has 0; other SHEETS do not count */
    static void promise42Cells() {
        SameMan x = new SameMan();
        for (int k = 1; k < 4; k++) {
            x.sheet(k, 0, 7);
        }
        Edge.due("nothing", x.count(3), SameMan.NONE);
        x.sheet(0, 2, 0);
        Edge.due("no cells", x.count(3), 0);
        x.sheet(0, 1, 40);
        Edge.due("all", x.count(3), 40);
        x.sheet(0, 1, 41);
        x.sheet(0, 1, -1);
        Edge.due("refused", x.count(3), 40);
        x.sheet(0, 0, 1);
        Edge.due("one", x.count(3), 1);
    }

    /** "4 LETTERS of all ONES' NAMES": none, 160, of every kind */
    static void promise42Letters() {
        Edge.due("none", new SameMan().count(4), 0);
        Edge.due("of nobody, with a list", Check.told("list abc;").count(4), 0);
        Edge.due("of every kind", Check.told("one plain a 0 0;one dead bz 0 0;one foreign nzz 0 0;one mute abcd 0 0;one twin e 0 0;").count(4), 11);
        SameMan x = Check.told("one mute abcdefghij 1 1;".repeat(8));
        Edge.due("eight of ten", x.count(4), 80);
        for (int p = 0; p < 8; p += 2) {
            x.wed(p, p + 1);
        }
        Edge.due("eight of twenty", x.count(4), 160);
    }

    /** "5 WORTHS of all LETTERS, summed": at first, all 0, all 40 */
    static void promise42Worths() {
        SameMan x = new SameMan();
        Edge.due("at first", x.count(5), 351);
        for (int l = 0; l < 26; l++) {
            x.letter(l, 0);
        }
        Edge.due("all 0", x.count(5), 0);
        for (int l = 0; l < 26; l++) {
            x.letter(l, 40);
        }
        Edge.due("all 40", x.count(5), 1040);
    }

    /** "BAD" */
    static void promise42Bad() {
        Edge.leavesForEach("count", Edge::some, Edge.outside(0, 5), what -> x -> x.count(what), SameMan.BAD);
        for (int what = 0; what < 6; what++) {
            int asked = what;
            Edge.leaves("count", Edge::some, x -> x.count(asked), Edge.some().count(asked));
        }
    }
}
