/** The edges of promises 18 to 21, of other tunes: each method is a sentence of the document. */
public final class TunesEdgeTest {
    private static final int BAD = RungByADrum.BAD;
    private static final Due due = new Due();
    private static final String EIGHT = Tell.bells(8);
    private static final String ALL = "[abcdefgh]";

    public static void main(String[] args) {
        wantRowsThereAre();
        wantSetsOfBellsThereAre();
        wantNoneWithout();
        whatOfChanges();
        changesFromNoneToAll();
        changesBy0ToNLess1();
        changesRound();
        changesLowestOfSeveral();
        changesOnlyAsk();
        lettersOfOneRow();
        lettersJustTheseRows();
        lettersFigureFrom2To9();
        lettersChordsAgain();
        lettersThreeDeepAtMost();
        lettersNotRound();
        lettersMoreThanATextHolds();
        ringersFrom1ToAll();
        ringersOfAllBells();
        ringersSameRowOnly();
        due.end();
    }

    private static RungByADrum laid(String text) {
        return Tell.laid(due, text);
    }

    // ---- promises 18 and 19

    private static void wantRowsThereAre() {
        due.part("18 BAD (ROWS: such as there are)");
        for (int rows : new int[] {2, 16, 31, 32}) {
            RungByADrum x = laid("b0,1;n" + rows + ";");
            for (int row : Tell.beyond(0, rows - 1)) {
                due.is("want(" + row + ", 1)", x.want(row, 1), BAD);
                due.is("want(" + row + ", 0)", x.want(row, 0), BAD);
                due.is("want(" + row + ", 2)", x.want(row, 2), BAD);
            }
            due.is("nothing is wanted", x.changes(0), 0);
            due.is("the first", x.want(0, 1), 0);
            due.is("the last", x.want(rows - 1, 1), 0);
            due.is("both are wanted", x.changes(0), 2);
            due.is("the first", x.want(0, 0), 1);
            due.is("the last", x.want(rows - 1, 0), 1);
        }
    }

    private static void wantSetsOfBellsThereAre() {
        due.part("18 A set (it may be 0); BAD (BELLS: such as there are)");
        for (int bells = 1; bells <= 8; bells++) {
            RungByADrum x = laid(Tell.bells(bells) + "n2;");
            int all = (1 << bells) - 1;
            due.is("all", x.want(1, all), 0);
            for (int set : Tell.beyond(0, all)) {
                due.is("want(1, " + set + ")", x.want(1, set), BAD);
            }
            due.is("the next bell's alone", x.want(1, all + 1), BAD);
            due.is("all is wanted as ever", x.changes(0), bells);
            due.is("none", x.want(1, 0), all);
            due.is("none was", x.want(1, 0), 0);
            due.is("nothing is wanted", x.changes(0), 0);
        }
    }

    private static void wantNoneWithout() {
        due.part("18 (none without): which one was");
        RungByADrum x = laid(EIGHT + "n32;");
        for (int row = 0; row < 32; row++) {
            due.is("none as yet", x.want(row, row * 8), 0);
        }
        for (int row = 0; row < 32; row++) {
            due.is("its own", x.want(row, 255), row * 8);
        }
        for (int row = 0; row < 32; row++) {
            due.is("the latest", x.want(row, 0), 255);
        }
        x.want(31, 255);
        x.want(15, 255);
        Tell.text(due, x, EIGHT);
        x.lay();
        due.is("none behind a lay", x.want(15, 0), 0);
        Tell.text(due, x, EIGHT + "n32;");
        x.lay();
        due.is("none behind a lay of more rows", x.want(31, 0), 0);
    }

    private static void whatOfChanges() {
        due.part("19 what = 0, 1; BAD");
        RungByADrum x = laid("b0,1;n4;ta;");
        x.want(3, 1);
        due.is("how many", x.changes(0), 0);
        due.is("k", x.changes(1), 3);
        for (int what : Tell.beyond(0, 1)) {
            due.is("changes(" + what + ")", x.changes(what), BAD);
        }
    }

    private static void changesFromNoneToAll() {
        due.part("19 fewest PINS have to be put in or taken out");
        RungByADrum x = laid(EIGHT + "n32;");
        due.is("nothing on it, nothing wanted", x.changes(0), 0);
        for (int row = 0; row < 32; row++) {
            x.want(row, 255);
            due.is("all to be put in", x.changes(0), 8 * row + 8);
        }
        x = laid(EIGHT + "n32;t((" + ALL + ")8)4;");
        due.is("all to be taken out", x.changes(0), 256);
        for (int row = 0; row < 32; row++) {
            x.want(row, 255);
        }
        due.is("none", x.changes(0), 0);
        x.want(31, 254);
        due.is("one to be taken out", x.changes(0), 1);
        x = laid("b0,1;b0,1;n2;ta;");
        x.want(0, 2);
        due.is("one in, one out", x.changes(0), 2);
    }

    private static void changesBy0ToNLess1() {
        due.part("19 of all k (0 to N less 1)");
        for (int rows : new int[] {2, 3, 16, 31, 32}) {
            for (int k = 0; k < rows; k++) {
                RungByADrum x = laid("b0,1;n" + rows + ";ta;");
                x.want(k, 1);
                due.is("how many, " + k + " of " + rows, x.changes(0), 0);
                due.is("k, " + k + " of " + rows, x.changes(1), k);
            }
        }
    }

    private static void changesRound() {
        due.part("19 SHIFTED by it, round");
        for (int k = 0; k < 6; k++) {
            RungByADrum x = laid("b0,1;b0,1;b0,1;n6;tab[abc]..c;");
            int[] sets = {1, 2, 7, 0, 0, 4};
            for (int row = 0; row < 6; row++) {
                x.want((row + k) % 6, sets[row]);
            }
            due.is("how many", x.changes(0), 0);
            due.is("k", x.changes(1), k);
            x.shift(k);
            due.is("how many, shifted", x.changes(0), 0);
            due.is("k, shifted", x.changes(1), 0);
            x.shift(1);
            due.is("k, shifted by one too many", x.changes(1), 5);
        }
    }

    private static void changesLowestOfSeveral() {
        due.part("19 of several the lowest");
        due.is("nothing at all", laid("b0,1;n32;").changes(1), 0);
        due.is("nothing wanted", laid("b0,1;n32;ta;").changes(1), 0);
        RungByADrum x = laid("b0,1;n6;ta..a;");
        x.want(2, 1);
        x.want(5, 1);
        due.is("by 2 and by 5", x.changes(1), 2);
        x = laid("b0,1;n6;ta.a.a;");
        x.want(1, 1);
        x.want(3, 1);
        x.want(5, 1);
        due.is("by 1, 3, 5", x.changes(1), 1);
        due.is("how many", x.changes(0), 0);
    }

    private static void changesOnlyAsk() {
        due.part("19 nothing is SHIFTED by asking");
        RungByADrum x = laid("b0,1;n3;ta;");
        x.want(2, 1);
        x.changes(0);
        x.changes(1);
        Tell.rowsAre(due, x, 1, 0, 0);
        due.is("that can be undone", x.count(7), 0);
        due.is("k", x.changes(1), 2);
    }

    // ---- promise 20

    private static void lettersAre(String bells, int rows, String tune, int fewest) {
        due.is("letters of " + tune + " in " + rows, laid(bells + "n" + rows + ";t" + tune + ";").letters(), fewest);
    }

    private static void lettersOfOneRow() {
        due.part("20 letters of one ROW");
        for (int many = 2; many <= 8; many++) {
            lettersAre(EIGHT, 2, "[" + "abcdefgh".substring(0, many) + "]", many + 3);
        }
        lettersAre(EIGHT, 2, "h", 2);
        lettersAre(EIGHT, 2, ".", 2);
    }

    private static void lettersJustTheseRows() {
        due.part("20 what is in ROWS 0 to N less 1, just these");
        // the rows behind the tune are written too, with . each or as a part that comes again
        lettersAre("b0,1;", 2, "a", 2);
        lettersAre("b0,1;", 5, "a", 5);
        lettersAre("b0,1;", 6, "a", 5);
        lettersAre("b0,1;", 10, "a", 5);
        lettersAre("b0,1;", 11, "a", 6);
        due.is("2 rows without a pin", laid("b0,1;n2;").letters(), 2);
        due.is("4 rows without a pin", laid("b0,1;n4;").letters(), 4);
        due.is("5 rows without a pin", laid("b0,1;n5;").letters(), 4);
        due.is("16 rows without a pin", laid("b0,1;").letters(), 5);
        due.is("32 rows without a pin", laid("b0,1;n32;").letters(), 7);
    }

    private static void lettersFigureFrom2To9() {
        due.part("20 a figure (2 to 9)");
        // so many rows alike: to 4 as they are, to 9 (a)5 .., from 10 on (aa)5 and (aa)5a ..; 15 is (aaa)5 or (aa)7a
        int[] fewest = {2, 3, 4, 4, 4, 4, 4, 4, 5, 6, 5, 6, 5, 6, 5, 6, 5, 6, 7, 6};
        for (int rows = 2; rows <= 21; rows++) {
            lettersAre("b0,1;", rows, "a".repeat(rows), fewest[rows - 2]);
        }
        lettersAre(EIGHT, 2, ALL + ALL, 13);
        lettersAre(EIGHT, 9, "(" + ALL + ")9", 13);
        // ten: ((X)5)2, as (X)10 is not to be had
        lettersAre(EIGHT, 10, "(" + ALL + ")9" + ALL, 16);
        // eleven is no product: ((X)5)2X
        lettersAre(EIGHT, 11, "(" + ALL + ")9" + ALL + ALL, 26);
    }

    private static void lettersChordsAgain() {
        due.part("20 a part of more ROWS that comes again");
        lettersAre("b0,1;b0,1;", 2, "[ab][ab]", 7);
        lettersAre("b0,1;b0,1;", 4, "abab", 4);
        lettersAre("b0,1;b0,1;", 6, "ababab", 5);
        lettersAre("b0,1;b0,1;", 18, "(ab)9", 5);
        lettersAre("b0,1;b0,1;", 20, "(ab)9ab", 7);
        lettersAre(EIGHT, 32, "(abcdefgh[ab][cd][ef][gh]....)2", 31);
        lettersAre(EIGHT, 8, "a(bcd)2a", 8);
    }

    private static void lettersThreeDeepAtMost() {
        due.part("20 ( in ( in ( at most");
        // 16 rows alike: two deep is enough
        lettersAre(EIGHT, 16, "((" + ALL + ")4)4", 16);
        // (((X)2a)2b)2: three deep
        lettersAre(EIGHT, 14, "(((" + ALL + ")2a)2b)2", 21);
        // four deep would be ((((X)2a)2b)2c)2 in 25; the inmost is written out or the outmost is
        lettersAre(EIGHT, 30, "(((" + ALL + ALL + "a)2b)2c)2", 32);
    }

    private static void lettersNotRound() {
        due.part("20 from ROW 0 to the last, not round");
        lettersAre("b0,1;", 8, "aa....aa", 8);
        RungByADrum x = laid("b0,1;b0,1;n12;t(a)6(b)6;");
        due.is("(a)6(b)6", x.letters(), 8);
        x.shift(3);
        due.is("bbb(a)6bbb", x.letters(), 10);
        x.shift(9);
        due.is("(a)6(b)6", x.letters(), 8);
    }

    private static void lettersMoreThanATextHolds() {
        due.part("20 the fewest letters of a TUNE, were it longer than a TEXT");
        RungByADrum x = laid(EIGHT + "n32;");
        int sum = 0;
        // 28 sets of six of eight bells: all unlike, 8 letters each
        int row = 0;
        for (int out = 0; out < 8; out++) {
            for (int other = out + 1; other < 8; other++) {
                for (int b = 0; b < 8; b++) {
                    if (b != out && b != other) {
                        x.pin(row, b, true);
                    }
                }
                row++;
                sum += 8;
            }
        }
        due.is("rows", row, 28);
        due.is("28 rows of six pins, 4 of none", x.letters(), sum + 4);
    }

    // ---- promise 21

    private static void ringersFrom1ToAll() {
        due.part("21 the fewest people: from 1 to all BELLS");
        for (int bells = 1; bells <= 8; bells++) {
            String letters = "abcdefgh".substring(0, bells);
            due.is("no pin", laid(Tell.bells(bells) + "n2;").ringers(), 1);
            due.is("one behind the other", laid(Tell.bells(bells) + "t" + letters + ";").ringers(), 1);
            if (bells > 1) {
                due.is("all at once", laid(Tell.bells(bells) + "t[" + letters + "];").ringers(), bells);
            }
        }
    }

    private static void ringersOfAllBells() {
        due.part("21 between whom all BELLS can be parted");
        due.is("bells without a pin are no more people", laid(EIGHT + "t[ab];").ringers(), 2);
        due.is("one bell without a pin", laid("b0,1;n2;").ringers(), 1);
        // a round of seven needs three
        due.is("a round of odd", laid(EIGHT + "t[ab][bc][cd][de][ef][fg][ag];").ringers(), 3);
        due.is("a round of even", laid(EIGHT + "t[ab][bc][cd][de][ef][fg][gh][ah];").ringers(), 2);
        // taken one behind the other, each to the first who can, they would need three and four
        due.is("two, though not at first", laid(EIGHT + "t[ad][af][bc][cf][be][de];").ringers(), 2);
        due.is("two, though not at first", laid(EIGHT + "t[ad][af][ah][bc][cf][ch][be][de][eh][bg][dg][fg];").ringers(), 2);
        // all twos of eight
        RungByADrum x = laid(EIGHT + "n32;");
        int row = 0;
        for (int b = 0; b < 8; b++) {
            for (int c = b + 1; c < 8; c++) {
                x.pin(row, b, true);
                x.pin(row, c, true);
                row++;
            }
        }
        due.is("all twos", x.ringers(), 8);
        x.pin(0, 0, false);
        due.is("all twos but one", x.ringers(), 7);
    }

    private static void ringersSameRowOnly() {
        due.part("21 no two BELLS of one have PINS in the same ROW");
        due.is("rows beside one another do not count", laid("b0,1;b0,1;n2;tab;").ringers(), 1);
        due.is("the last row counts", laid("b0,1;b0,1;n32;" + "t" + ".".repeat(31) + "[ab];").ringers(), 2);
        due.is("the first row counts", laid("b0,1;b0,1;n32;t[ab];").ringers(), 2);
        due.is("hammers do not count", laid("b0,2;b0,2;n2;t[ab];").ringers(), 2);
    }
}
