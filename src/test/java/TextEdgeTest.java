/** The edges of promises 1 to 7 and of the text: each method is a sentence of the document. */
public final class TextEdgeTest {
    private static final int BAD = RungByADrum.BAD, NO = RungByADrum.NO, FULL = RungByADrum.FULL, NONE = RungByADrum.NONE;
    private static final Due due = new Due();
    private static final String TWO = "b0,1;b1,1;";
    private static final String EIGHT = Tell.bells(8);
    private static final String ALL = "[abcdefgh]";

    public static void main(String[] args) {
        asToldAtFirst();
        theTextIsEmptyAtFirst();
        letterFrom32To126();
        twoHundredLettersAtMost();
        aFullTextIsReadToItsEnd();
        wipedHowLongItWas();
        noFaultOfTheEmptyText();
        semicolonBehindEachItem();
        itemsOfOtherLetters();
        oneOrTwoFigures();
        signsBesideTheFigures();
        partedByACommaOnly();
        toneFrom0To40();
        hammers1Or2();
        bells8AtMost();
        rowsFrom2To32();
        rows16Without();
        restFrom0To6();
        rest1Without();
        theLastSuchCounts();
        tuneOnceAtMost();
        onePartAtLeast();
        bellToldAhead();
        chordOfTwoOrMore();
        chordUnlikeAndInOrder();
        chordOfBellsToldAhead();
        chordIsClosed();
        figureFrom2To9();
        partIsClosed();
        threeDeepAtMost();
        tune32RowsAtMost();
        faultIsOfTheFirstLetter();
        faultIsOfTheFirstItem();
        laidWithABellAtLeast();
        laidWithNoMoreThanNRows();
        nByTheWholeText();
        zeroRowsWithoutATune();
        rowsBehindTheTuneHaveNone();
        nothingIsLeftOfEarlier();
        bellsSuchAsThereAre();
        whatOfABell();
        rowsSuchAsThereAre();
        due.end();
    }

    private static void faultIs(String text, int place) {
        RungByADrum x = new RungByADrum();
        Tell.text(due, x, text);
        due.is("fault of " + text, x.fault(), place);
        if (place != NONE) {
            due.is("lay of " + text, x.lay(), NO);
        }
    }

    private static void layIs(String text, int rows) {
        RungByADrum x = new RungByADrum();
        Tell.text(due, x, text);
        due.is("fault of " + text, x.fault(), NONE);
        due.is("lay of " + text, x.lay(), rows);
    }

    // ---- promise 1

    private static void asToldAtFirst() {
        due.part("1 at first b0,1;b4,1;b7,2;n14;r1;t(ab)2[ac]..c(bc)2.;");
        RungByADrum first = new RungByADrum();
        RungByADrum told = Tell.laid(due, "b0,1;b4,1;b7,2;n14;r1;t(ab)2[ac]..c(bc)2.;");
        for (int row = 0; row <= 14; row++) {
            due.is("pins(" + row + ")", first.pins(row), told.pins(row));
        }
        for (int b = 0; b <= 3; b++) {
            for (int what = 0; what <= 4; what++) {
                due.is("bell(" + b + ", " + what + ")", first.bell(b, what), told.bell(b, what));
            }
        }
        for (int what = 0; what <= 8; what++) {
            due.is("count(" + what + ")", first.count(what), told.count(what));
        }
        for (int i = 0; i < 30; i++) {
            due.is("turn " + i, first.turn(), told.turn());
        }
    }

    private static void theTextIsEmptyAtFirst() {
        due.part("1 THE TEXT is empty");
        due.is("count(9)", new RungByADrum().count(9), 0);
        due.is("wipe", new RungByADrum().wipe(), 0);
        due.is("fault", new RungByADrum().fault(), NONE);
        due.is("lay", new RungByADrum().lay(), NO);
        due.is("write", new RungByADrum().write('b'), 1);
    }

    // ---- promises 2 and 3

    private static void letterFrom32To126() {
        due.part("2 a letter (32 to 126)");
        RungByADrum x = new RungByADrum();
        for (int letter = 32; letter <= 126; letter++) {
            due.is("write(" + letter + ")", x.write(letter), letter - 31);
        }
        for (int letter : Tell.beyond(32, 126)) {
            due.is("write(" + letter + ")", x.write(letter), BAD);
        }
        for (int letter : new int[] {0, 9, 10, 13, 30, 128, 255, 256 + 'b', 65536 + 'b'}) {
            due.is("write(" + letter + ")", x.write(letter), BAD);
        }
        due.is("none of these came", x.count(9), 95);
    }

    private static void twoHundredLettersAtMost() {
        due.part("2 letters (200 at most); FULL");
        RungByADrum x = new RungByADrum();
        for (int i = 1; i <= 200; i++) {
            due.is("write", x.write('n'), i);
        }
        for (int i = 0; i < 3; i++) {
            due.is("the next one", x.write('n'), FULL);
            due.is("count(9)", x.count(9), 200);
        }
        due.is("BAD is told ahead of FULL", x.write(127), BAD);
        due.is("BAD is told ahead of FULL", x.write(31), BAD);
        due.is("wipe", x.wipe(), 200);
        due.is("there is room again", x.write('n'), 1);
    }

    private static void aFullTextIsReadToItsEnd() {
        due.part("2 letters (200 at most), all of them are read");
        String head = "b40,2;".repeat(8) + "n32;r6;t";
        String whole = head + ALL.repeat(14) + "abc;";
        due.is("letters of the text", whole.length(), 200);
        RungByADrum x = new RungByADrum();
        Tell.text(due, x, whole);
        due.is("fault", x.fault(), NONE);
        due.is("lay", x.lay(), 17);
        due.is("the last row but one of the tune", x.pins(15), 2);
        due.is("the last row of the tune", x.pins(16), 4);
        due.is("the row behind it", x.pins(17), 0);
        // one letter more ahead: the ; has no room, so the item of the tune is not so
        x = new RungByADrum();
        Tell.text(due, x, head + ALL.repeat(14) + "abcd");
        due.is("no room for the ;", x.write(';'), FULL);
        due.is("fault", x.fault(), head.length() - 1);
        faultIs("n32;".repeat(50), NONE);
        faultIs("n32;".repeat(49) + "n33;", 196);
        faultIs("r0;".repeat(66) + "r0", 198);
        faultIs("t" + "(".repeat(199), 0);
        faultIs("t" + ".".repeat(199), 0);
        faultIs(";".repeat(200), 0);
        faultIs("n".repeat(200), 0);
        faultIs("n2;".repeat(65) + "b0,1;", NONE);
        faultIs("n2;".repeat(65) + "b0,3;", 195);
    }

    private static void wipedHowLongItWas() {
        due.part("3 THE TEXT is empty: how long it was");
        RungByADrum x = new RungByADrum();
        due.is("of none", x.wipe(), 0);
        Tell.text(due, x, "n1;");
        due.is("fault ahead", x.fault(), 0);
        due.is("of three", x.wipe(), 3);
        due.is("fault of none", x.fault(), NONE);
        due.is("of none again", x.wipe(), 0);
        Tell.text(due, x, "n2;");
        due.is("only what came behind is read", x.fault(), NONE);
        due.is("the drum stays", x.count(1), 14);
        due.is("the drum stays", x.count(3), 11);
    }

    // ---- promise 4: items and numbers

    private static void noFaultOfTheEmptyText() {
        due.part("4 FAULT. NONE.");
        faultIs("", NONE);
        faultIs("b0,1;", NONE);
        faultIs("b", 0);
    }

    private static void semicolonBehindEachItem() {
        due.part("4 and a ; behind it");
        faultIs("b0,1", 0);
        faultIs("n9", 0);
        faultIs("r2", 0);
        faultIs("t.", 0);
        faultIs("b0,1;n9", 5);
        faultIs("b0,1;n9;r2", 8);
        faultIs("b0,1;n9;r2;t.", 11);
        faultIs("b0,1n9;", 0);
        faultIs("n9r2;", 0);
        faultIs("n9:", 0);
        faultIs("n9 ;", 0);
        faultIs(";", 0);
        faultIs("n9;;", 3);
        faultIs(";n9;", 0);
    }

    private static void itemsOfOtherLetters() {
        due.part("4 ITEMS, each a letter b, n, r, t");
        for (char letter = ' '; letter <= '~'; letter++) {
            faultIs("n9;" + letter + "5;", letter == 'n' || letter == 'r' ? NONE : 3);
        }
    }

    private static void oneOrTwoFigures() {
        due.part("4 numbers are of one or two figures");
        faultIs("n;", 0);
        faultIs("n9;", NONE);
        faultIs("n10;", NONE);
        faultIs("n009;", 0);
        faultIs("n100;", 0);
        faultIs("n02;", NONE);
        faultIs("r;", 0);
        faultIs("r06;", NONE);
        faultIs("r006;", 0);
        faultIs("b,1;", 0);
        faultIs("b0,;", 0);
        faultIs("b,;", 0);
        faultIs("b00,01;", NONE);
        faultIs("b000,1;", 0);
        faultIs("b0,001;", 0);
        faultIs("b0,111;", 0);
        faultIs("b4294967296,1;", 0);
        faultIs("n4294967298;", 0);
    }

    private static void signsBesideTheFigures() {
        due.part("4 numbers are of figures: / and : stand beside 0 and 9");
        for (String sign : new String[] {"/", ":", "-", "+", " ", "a", "x", "."}) {
            faultIs("n" + sign + ";", 0);
            faultIs("n1" + sign + ";", 0);
            faultIs("n" + sign + "9;", 0);
            faultIs("r" + sign + ";", 0);
            faultIs("r0" + sign + ";", 0);
            faultIs("b" + sign + ",1;", 0);
            faultIs("b1" + sign + ",1;", 0);
            faultIs("b1," + sign + ";", 0);
            faultIs("b1,0" + sign + ";", 0);
            faultIs("b0,1;t(a)" + sign + ";", 5);
        }
    }

    private static void partedByACommaOnly() {
        due.part("4 parted by ,");
        faultIs("b1,1;", NONE);
        faultIs("b1;", 0);
        faultIs("b11;", 0);
        faultIs("b1.1;", 0);
        faultIs("b1;1;", 0);
        faultIs("b1 1;", 0);
        faultIs("b1,,1;", 0);
        faultIs("b,1,1;", 0);
        faultIs("b1,1,;", 0);
        faultIs("b1,1,1;", 0);
        faultIs("n,9;", 0);
        faultIs("n9,;", 0);
        faultIs("n9,9;", 0);
        faultIs("r1,1;", 0);
    }

    private static void toneFrom0To40() {
        due.part("4 TONE T (0 to 40)");
        for (int tone = 0; tone <= 99; tone++) {
            faultIs("b" + tone + ",1;", tone <= 40 ? NONE : 0);
        }
        faultIs("b-1,1;", 0);
        due.is("the lowest", Tell.laid(due, "b0,1;").bell(0, 0), 0);
        due.is("the highest", Tell.laid(due, "b40,1;").bell(0, 0), 40);
    }

    private static void hammers1Or2() {
        due.part("4 H HAMMERS (1, 2)");
        for (int hammers = 0; hammers <= 99; hammers++) {
            faultIs("b7," + hammers + ";", hammers == 1 || hammers == 2 ? NONE : 0);
        }
        due.is("one", Tell.laid(due, "b7,1;").bell(0, 1), 1);
        due.is("two", Tell.laid(due, "b7,2;").bell(0, 1), 2);
    }

    private static void bells8AtMost() {
        due.part("4 8 at most: a, b, c, ..");
        for (int bells = 1; bells <= 8; bells++) {
            faultIs(Tell.bells(bells), NONE);
            due.is("BELLS", Tell.laid(due, Tell.bells(bells)).count(0), bells);
        }
        faultIs(Tell.bells(9), 40);
        faultIs(Tell.bells(8) + "n9;r2;th;b40,2;", 49);
        RungByADrum x = Tell.laid(due, "b1,1;b2,2;b3,1;b4,2;b5,1;b6,2;b7,1;b8,2;tabcdefgh;");
        for (int b = 0; b < 8; b++) {
            due.is("TONE of " + b, x.bell(b, 0), b + 1);
            due.is("HAMMERS of " + b, x.bell(b, 1), b % 2 + 1);
            due.is("its letter in the tune", x.pins(b), 1 << b);
        }
    }

    private static void rowsFrom2To32() {
        due.part("4 N ROWS (2 to 32)");
        for (int rows = 0; rows <= 99; rows++) {
            boolean so = rows >= 2 && rows <= 32;
            faultIs("n" + rows + ";", so ? NONE : 0);
            if (so) {
                due.is("ROWS", Tell.laid(due, "b0,1;n" + rows + ";").count(1), rows);
            }
        }
    }

    private static void rows16Without() {
        due.part("4 16 without");
        due.is("ROWS", Tell.laid(due, "b0,1;").count(1), 16);
        layIs("b0,1;t" + ".".repeat(16) + ";", 16);
        layIs("b0,1;t" + ".".repeat(17) + ";", NO);
        RungByADrum x = new RungByADrum();
        for (int lays = 1; lays <= 3; lays++) {
            Tell.text(due, x, "b0,1;n3;");
            for (int i = 0; i < lays; i++) {
                x.lay();
            }
            due.is("as told", x.count(1), 3);
            Tell.text(due, x, "b0,1;");
            x.lay();
            due.is("16 again behind another text", x.count(1), 16);
        }
    }

    private static void restFrom0To6() {
        due.part("4 R ROWS (0 to 6)");
        for (int rest = 0; rest <= 99; rest++) {
            faultIs("r" + rest + ";", rest <= 6 ? NONE : 0);
            if (rest <= 6) {
                due.is("R", Tell.laid(due, "b0,1;r" + rest + ";").count(2), rest);
            }
        }
    }

    private static void rest1Without() {
        due.part("4 1 without");
        RungByADrum x = Tell.laid(due, "b0,1;n3;taaa;");
        due.is("R", x.count(2), 1);
        due.is("turn", x.turn(), 1);
        due.is("turn", x.turn(), 0);
        due.is("turn", x.turn(), 1);
        for (int lays = 1; lays <= 3; lays++) {
            Tell.text(due, x, "b0,1;r6;");
            for (int i = 0; i < lays; i++) {
                x.lay();
            }
            due.is("as told", x.count(2), 6);
            Tell.text(due, x, "b0,1;");
            x.lay();
            due.is("1 again behind another text", x.count(2), 1);
        }
    }

    private static void theLastSuchCounts() {
        due.part("4 of several such the last one counts");
        RungByADrum x = Tell.laid(due, "n2;n32;r6;b0,1;r0;n31;r5;t.;n7;");
        due.is("ROWS", x.count(1), 7);
        due.is("R", x.count(2), 5);
        x = Tell.laid(due, "r3;n9;n4;r3;r0;b0,1;");
        due.is("ROWS", x.count(1), 4);
        due.is("R", x.count(2), 0);
        faultIs("n1;n9;", 0);
        faultIs("n9;n33;n9;", 3);
        faultIs("r1;r7;r1;", 3);
    }

    // ---- promise 4: tunes

    private static void tuneOnceAtMost() {
        due.part("4 t and a TUNE; once at most");
        faultIs(TWO, NONE);
        faultIs(TWO + "ta;", NONE);
        faultIs(TWO + "ta;tb;", 13);
        faultIs(TWO + "ta;ta;", 13);
        faultIs("t.;t.;", 3);
        faultIs("t.;n9;r2;b0,1;t.;", 14);
        faultIs(TWO + "ta;t;", 13);
    }

    private static void onePartAtLeast() {
        due.part("4 A TUNE is PARTS, one at least");
        faultIs("t;", 0);
        faultIs("t.;", NONE);
        faultIs("t()2;", 0);
        faultIs("t(.)2;", NONE);
        faultIs("t.()2;", 0);
        faultIs("t()2.;", 0);
        faultIs("t(()2)2;", 0);
        faultIs("t(.()2)2;", 0);
        faultIs("t((.)2)2;", NONE);
        faultIs("t", 0);
    }

    private static void bellToldAhead() {
        due.part("4 a BELL's letter (told ahead)");
        for (int bells = 0; bells <= 8; bells++) {
            for (char letter = '!'; letter <= '~'; letter++) {
                if (letter != ';') {
                    boolean so = letter >= 'a' && letter < 'a' + bells || letter == '.';
                    faultIs(Tell.bells(bells) + "t" + letter + ";", so ? NONE : 5 * bells);
                }
            }
        }
        faultIs("ta;b0,1;", 0);
        faultIs("b0,1;tb;b0,1;", 5);
        faultIs("b0,1;ta;b0,1;", NONE);
        faultIs("b0,1;b0,1;tb;", NONE);
    }

    private static void chordOfTwoOrMore() {
        due.part("4 [ and two or more letters of BELLS");
        faultIs(EIGHT + "t[];", 40);
        for (int many = 1; many <= 8; many++) {
            faultIs(EIGHT + "t[" + "abcdefgh".substring(0, many) + "];", many >= 2 ? NONE : 40);
            faultIs(EIGHT + "t[" + "abcdefgh".substring(8 - many) + "];", many >= 2 ? NONE : 40);
        }
        faultIs(EIGHT + "t[h];", 40);
        faultIs(EIGHT + "t[.];", 40);
        faultIs(EIGHT + "t[a.];", 40);
        faultIs(EIGHT + "t[a.b];", 40);
        faultIs(EIGHT + "t[(ab)2];", 40);
        faultIs(EIGHT + "t[[ab]];", 40);
        due.is("all of eight", Tell.laid(due, EIGHT + "t[abcdefgh];").pins(0), 255);
        due.is("the first and the last", Tell.laid(due, EIGHT + "t[ah];").pins(0), 129);
    }

    private static void chordUnlikeAndInOrder() {
        due.part("4 (unlike, told ahead) in order");
        faultIs(EIGHT + "t[aa];", 40);
        faultIs(EIGHT + "t[hh];", 40);
        faultIs(EIGHT + "t[ba];", 40);
        faultIs(EIGHT + "t[hg];", 40);
        faultIs(EIGHT + "t[aba];", 40);
        faultIs(EIGHT + "t[abb];", 40);
        faultIs(EIGHT + "t[acb];", 40);
        faultIs(EIGHT + "t[abcdefghh];", 40);
        faultIs(EIGHT + "t[abcdefgha];", 40);
        faultIs(EIGHT + "t[abcdefgg];", 40);
        faultIs(EIGHT + "t[aa;", 40);
        faultIs(EIGHT + "t[ba;", 40);
        faultIs(EIGHT + "t[hga;", 40);
    }

    private static void chordOfBellsToldAhead() {
        due.part("4 [ and letters of BELLS told ahead");
        faultIs(TWO + "t[ab];", NONE);
        faultIs(TWO + "t[ac];", 10);
        faultIs(TWO + "t[abc];", 10);
        faultIs(TWO + "t[bc];b0,1;", 10);
        faultIs(EIGHT + "t[hi];", 40);
        faultIs(TWO + "t[`a];", 10);
        faultIs(TWO + "t[AB];", 10);
        faultIs("b0,1;t[ab];", 5);
        faultIs("t[ab];", 0);
    }

    private static void chordIsClosed() {
        due.part("4 and ] for all these");
        faultIs(TWO + "t[ab;", 10);
        faultIs(TWO + "t[ab", 10);
        faultIs(TWO + "t[ab);", 10);
        faultIs(TWO + "t[ab]];", 10);
        faultIs(TWO + "tab];", 10);
        faultIs(TWO + "t];", 10);
        faultIs(TWO + "t[;", 10);
        faultIs(TWO + "t[ab]2;", 10);
        faultIs(EIGHT + "t[abcdefgh;", 40);
    }

    private static void figureFrom2To9() {
        due.part("4 a figure (2 to 9)");
        for (int figure = 0; figure <= 9; figure++) {
            faultIs("t(.)" + figure + ";", figure >= 2 ? NONE : 0);
            if (figure >= 2) {
                layIs("b0,1;t(.)" + figure + ";", figure);
            }
        }
        faultIs("t(.);", 0);
        faultIs("t(.)", 0);
        faultIs("t(.).;", 0);
        for (int number = 10; number <= 32; number++) {
            faultIs("t(.)" + number + ";", 0);
        }
        faultIs("t(.)02;", 0);
        faultIs("t.2;", 0);
        faultIs("t2;", 0);
    }

    private static void partIsClosed() {
        due.part("4 ( and a TUNE and )");
        faultIs("t(.;", 0);
        faultIs("t(;", 0);
        faultIs("t(.2;", 0);
        faultIs("t((.)2;", 0);
        faultIs("t.)2;", 0);
        faultIs("t)2;", 0);
        faultIs("t(.)2)2;", 0);
        faultIs("t)2(.;", 0);
        faultIs("t(.]2;", 0);
        faultIs("t(.;)2;", 0);
    }

    private static void threeDeepAtMost() {
        due.part("4 ( in ( in ( at most");
        faultIs("t(.)2;", NONE);
        faultIs("t((.)2)2;", NONE);
        faultIs("t(((.)2)2)2;", NONE);
        faultIs("t((((.)2)2)2)2;", 0);
        faultIs("t(((((.)2)2)2)2)2;", 0);
        faultIs("t.(.(.(.(.)2)2)2)2;", 0);
        // the item ends right behind the ( that is one too many, or there is nothing behind it
        faultIs("t((((;", 0);
        faultIs("t((((", 0);
        faultIs(TWO + "ta(((([ab];", 10);
        // one behind the other they are not deeper
        faultIs("t(.)2(.)2(.)2(.)2(.)2;", NONE);
        faultIs("t(((.)2(.)2)2(.)2)2;", NONE);
        faultIs("t(((.)2)2)2(((.)2)2)2(((.)2)2)2;", NONE);
        faultIs("t(((.)2)2)2((((.)2)2)2)2;", 0);
        layIs("b0,1;t(((.)2)2)2;", 8);
        layIs("b0,1;n32;t(((a)3.)2)4;", 32);
    }

    private static void tune32RowsAtMost() {
        due.part("4 It is of as many ROWS as it tells, 32 at most");
        faultIs("t" + ".".repeat(32) + ";", NONE);
        faultIs("t" + ".".repeat(33) + ";", 0);
        faultIs("t((.)8)4;", NONE);
        faultIs("t((.)8)4.;", 0);
        faultIs("t.((.)8)4;", 0);
        faultIs("t((.)4(.)4)4;", NONE);
        faultIs("t((.)4(.)4.)4;", 0);
        faultIs("t(" + ".".repeat(16) + ")2;", NONE);
        faultIs("t(" + ".".repeat(17) + ")2;", 0);
        faultIs("t" + ".".repeat(14) + "(.)9(.)9;", NONE);
        faultIs("t" + ".".repeat(15) + "(.)9(.)9;", 0);
        faultIs("t(((.)9)9)9;", 0);
        faultIs("t(((.)4)4)2;", NONE);
        faultIs("t(((.)4)4)3;", 0);
        faultIs("n2;t" + ".".repeat(32) + ";", NONE);
        faultIs(EIGHT + "t((" + ALL + ")8)4;", NONE);
        faultIs(EIGHT + "t((" + ALL + ")8)4" + ALL + ";", 40);
        layIs("b0,1;n32;t" + "a".repeat(32) + ";", 32);
        layIs("b0,1;n32;t" + "a".repeat(31) + ";", 31);
    }

    private static void faultIsOfTheFirstLetter() {
        due.part("4 the place (from 0 on) of the first letter of the ITEM");
        faultIs("b41,1;", 0);
        faultIs("b0,1;b41,1;", 5);
        faultIs("b00,01;n33;", 7);
        faultIs("n9;r0;t.;x", 9);
        faultIs(TWO + "tababababab[ab](a)2.c;", 10);
        faultIs("n32;".repeat(49) + "n32.", 196);
        faultIs("n32;".repeat(49) + "n3;x", 199);
    }

    private static void faultIsOfTheFirstItem() {
        due.part("4 of the first ITEM that is not so");
        faultIs("n1;r7;b0,0;t;", 0);
        faultIs("n2;r7;b0,0;t;", 3);
        faultIs("n2;r6;b0,0;t;", 6);
        faultIs("n2;r6;b0,1;t;", 11);
        faultIs("n2;r6;b0,1;ta;", NONE);
        faultIs("n2;r6;b0,1;ta;;", 14);
    }

    // ---- promise 5

    private static void laidWithABellAtLeast() {
        due.part("5 of a BELL at least");
        layIs("", NO);
        layIs("n9;r2;t.;", NO);
        layIs("t" + ".".repeat(16) + ";", NO);
        layIs("b0,1;", 0);
        layIs("t.;b0,1;", 1);
    }

    private static void laidWithNoMoreThanNRows() {
        due.part("5 whose TUNE is of no more than N ROWS; NO else");
        for (int rows : new int[] {2, 3, 15, 16, 17, 31, 32}) {
            layIs("b0,1;n" + rows + ";t" + "a".repeat(rows - 1) + ";", rows - 1);
            layIs("b0,1;n" + rows + ";t" + "a".repeat(rows) + ";", rows);
            if (rows < 32) {
                layIs("b0,1;n" + rows + ";t" + "a".repeat(rows + 1) + ";", NO);
            }
        }
        layIs("b0,1;n2;t" + "a".repeat(32) + ";", NO);
    }

    private static void nByTheWholeText() {
        due.part("5 N by the whole TEXT");
        layIs("b0,1;taaa;n3;", 3);
        layIs("b0,1;taaa;n2;", NO);
        layIs("b0,1;n2;taaa;n3;", 3);
        layIs("b0,1;n3;taaa;n2;", NO);
        layIs("b0,1;n3;taaa;n2;n4;", 3);
        layIs("b0,1;t" + "a".repeat(17) + ";", NO);
        layIs("b0,1;t" + "a".repeat(17) + ";n17;", 17);
    }

    private static void zeroRowsWithoutATune() {
        due.part("5 how many ROWS the TUNE has (0 without)");
        for (int rows : new int[] {2, 16, 32}) {
            RungByADrum x = new RungByADrum();
            Tell.text(due, x, "b0,1;n" + rows + ";");
            due.is("lay", x.lay(), 0);
            Tell.rowsAre(due, x, new int[rows]);
            due.is("PINS", x.count(3), 0);
        }
        layIs("b0,1;t.;", 1);
    }

    private static void rowsBehindTheTuneHaveNone() {
        due.part("5 ROWS behind the TUNE have none");
        RungByADrum x = Tell.laid(due, "b0,1;b0,1;n4;t[ab][ab][ab][ab];");
        Tell.rowsAre(due, x, 3, 3, 3, 3);
        Tell.text(due, x, "b0,1;n4;taaa;");
        due.is("lay", x.lay(), 3);
        Tell.rowsAre(due, x, 1, 1, 1, 0);
        Tell.text(due, x, "b0,1;n4;ta;");
        due.is("lay", x.lay(), 1);
        Tell.rowsAre(due, x, 1, 0, 0, 0);
        Tell.text(due, x, "b0,1;n4;");
        due.is("lay", x.lay(), 0);
        Tell.rowsAre(due, x, 0, 0, 0, 0);
        Tell.text(due, x, "b0,1;n4;t.a;");
        due.is("lay", x.lay(), 2);
        Tell.rowsAre(due, x, 0, 1, 0, 0);
    }

    private static void nothingIsLeftOfEarlier() {
        due.part("5 nothing turned, WANTED, HEARD, UNDONE, KEPT; THE TEXT stays");
        RungByADrum x = Tell.laid(due, "b0,1;n2;r6;taa;");
        for (int i = 0; i < 9; i++) {
            x.turn();
            x.hear(1);
            x.keep();
        }
        x.want(0, 1);
        x.want(1, 1);
        due.is("lay again", x.lay(), 2);
        int[] counts = {1, 2, 6, 2, 0, 2, 0, 0, 0, 15};
        for (int what = 0; what < counts.length; what++) {
            due.is("count(" + what + ")", x.count(what), counts[what]);
        }
        due.is("RUNG", x.bell(0, 3), 0);
        due.is("MISSED", x.bell(0, 4), 0);
        due.is("nothing to undo", x.undo(), NO);
        due.is("nothing kept", x.back(), NO);
        due.is("nothing heard", x.forget(), 0);
        due.is("nothing wanted", x.changes(0), 2);
        due.is("nothing wanted", x.want(0, 0), 0);
        due.is("nothing wanted", x.want(1, 0), 0);
        due.is("the hammer is ready", x.turn(), 1);
        due.is("the text stays", x.fault(), NONE);
        due.is("the text stays", x.wipe(), 15);
    }

    // ---- promises 6 and 7

    private static void bellsSuchAsThereAre() {
        due.part("6 BAD (BELLS: such as there are)");
        for (int bells = 1; bells <= 8; bells++) {
            RungByADrum x = Tell.laid(due, Tell.bells(bells));
            due.is("the first", x.bell(0, 1), 1);
            due.is("the last", x.bell(bells - 1, 1), 1);
            for (int b : Tell.beyond(0, bells - 1)) {
                for (int what = 0; what <= 4; what++) {
                    due.is("bell(" + b + ", " + what + ")", x.bell(b, what), BAD);
                }
            }
        }
        // fewer bells than there were
        RungByADrum x = Tell.laid(due, EIGHT);
        Tell.text(due, x, TWO);
        x.lay();
        due.is("bell(1, 0)", x.bell(1, 0), 1);
        due.is("bell(2, 0)", x.bell(2, 0), BAD);
    }

    private static void whatOfABell() {
        due.part("6 what = 0 to 4; BAD");
        RungByADrum x = Tell.laid(due, "b40,2;n2;r6;ta;");
        for (int i = 0; i < 5; i++) {
            x.turn();
        }
        int[] answers = {40, 2, 1, 2, 1};
        for (int what = 0; what <= 4; what++) {
            due.is("bell(0, " + what + ")", x.bell(0, what), answers[what]);
        }
        for (int what : Tell.beyond(0, 4)) {
            due.is("bell(0, " + what + ")", x.bell(0, what), BAD);
            due.is("bell(1, " + what + ")", x.bell(1, what), BAD);
        }
    }

    private static void rowsSuchAsThereAre() {
        due.part("7 BAD (ROWS: such as there are)");
        for (int rows : new int[] {2, 16, 31, 32}) {
            RungByADrum x = Tell.laid(due, EIGHT + "n" + rows + ";ta;");
            x.pin(0, 7, true);
            x.pin(rows - 1, 6, true);
            due.is("the first", x.pins(0), 129);
            due.is("the last", x.pins(rows - 1), 64);
            for (int row : Tell.beyond(0, rows - 1)) {
                due.is("pins(" + row + ")", x.pins(row), BAD);
            }
        }
        RungByADrum x = Tell.laid(due, "b0,1;n32;t" + "a".repeat(32) + ";");
        due.is("pins(31)", x.pins(31), 1);
        Tell.text(due, x, "b0,1;n31;t" + "a".repeat(31) + ";");
        x.lay();
        due.is("fewer rows than there were", x.pins(31), BAD);
        due.is("none", Tell.laid(due, "b0,1;n2;").pins(1), 0);
        due.is("all", Tell.laid(due, EIGHT + "n2;t" + ALL + ALL + ";").pins(1), 255);
    }
}
