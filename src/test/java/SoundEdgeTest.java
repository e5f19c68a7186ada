/** The edges of promises 13 to 17, of how it sounds: each method is a sentence of the document. */
public final class SoundEdgeTest {
    private static final int BAD = RungByADrum.BAD;
    private static final Due due = new Due();
    private static final String EIGHT = Tell.bells(8);

    public static void main(String[] args) {
        whatOfAWhole();
        turnedByNRows();
        turnFromNowOn();
        turnOverTheSeam();
        wholeOfNoPins();
        forEverBehind8Turns();
        wholeOnlyAsks();
        silenceFromNoneToN();
        silenceRound();
        againFrom1ToN();
        againRound();
        illTones();
        illOfAnEarlierText();
        harshTwosOfOneRow();
        whatOfACanon();
        canonOfTwoRows();
        canonFrom1ToNLess1();
        canonLowestOfSeveral();
        canonRound();
        due.end();
    }

    private static RungByADrum laid(String text) {
        return Tell.laid(due, text);
    }

    // ---- promise 13

    private static void wholeIs(String text, int rings, int missed, int forEver) {
        wholeIs(laid(text), text, rings, missed, forEver);
    }

    private static void wholeIs(RungByADrum x, String text, int rings, int missed, int forEver) {
        due.is("RING of " + text, x.whole(0), rings);
        due.is("MISSED of " + text, x.whole(1), missed);
        due.is("FOR EVER of " + text, x.whole(2), forEver);
    }

    private static void whatOfAWhole() {
        due.part("13 what = 0, 1, 2; BAD");
        RungByADrum x = laid("b0,1;n3;r2;taaa;");
        wholeIs(x, "aaa", 1, 2, 2);
        for (int what : Tell.beyond(0, 2)) {
            due.is("whole(" + what + ")", x.whole(what), BAD);
        }
    }

    private static void turnedByNRows() {
        due.part("13 turned by N ROWS: all of them, none twice");
        for (int rows : new int[] {2, 3, 31, 32}) {
            wholeIs("b0,1;r0;n" + rows + ";t" + "a".repeat(rows) + ";", rows, 0, 0);
            wholeIs("b0,1;r6;n" + rows + ";t" + ".".repeat(rows - 1) + "a;", 1, 0, rows == 2 ? 0 : rows == 3 ? 1 : 0);
            wholeIs("b0,1;r6;n" + rows + ";ta;", 1, 0, rows == 3 ? 1 : 0);
        }
        wholeIs(EIGHT + "n32;r0;t(([abcdefgh])8)4;", 256, 0, 0);
    }

    private static void turnFromNowOn() {
        due.part("13 from now on");
        // R 6: behind row 0 the pins of rows 1 to 6 are missed, that of row 7 rings
        RungByADrum x = laid("b0,1;n8;r6;taaaaaaaa;");
        due.is("RING", x.whole(0), 2);
        due.is("MISSED", x.whole(1), 6);
        for (int turned = 1; turned <= 8; turned++) {
            x.turn();
            // rows that came: 0 and 7 rang; of the 8 from now on those by 7, 14
            int from = turned;
            int rings = 0;
            for (int row = from; row < from + 8; row++) {
                rings += row % 7 == 0 ? 1 : 0;
            }
            due.is("RING behind " + turned, x.whole(0), rings);
            due.is("MISSED behind " + turned, x.whole(1), 8 - rings);
        }
    }

    private static void turnOverTheSeam() {
        due.part("13 from now on, from the last ROW and from none");
        RungByADrum x = laid("b0,1;n4;r1;ta..a;");
        due.is("of none as yet rows 0 to 3", x.whole(0), 2);
        x.turnBack();
        due.is("behind row 3 row 0 is missed", x.whole(0), 1);
        due.is("behind row 3 row 0 is missed", x.whole(1), 1);
        x.turnBack();
        due.is("behind row 2: row 3 is 2 behind row 3", x.whole(0), 1);
        x = laid("b0,1;n4;r1;ta..a;");
        x.turn();
        due.is("behind row 0: row 3 rings, row 0 is missed", x.whole(0), 1);
    }

    private static void wholeOfNoPins() {
        due.part("13 no PIN");
        wholeIs("b0,1;n2;", 0, 0, 0);
        wholeIs(EIGHT + "n32;r6;", 0, 0, 0);
    }

    private static void forEverBehind8Turns() {
        due.part("13 FOR EVER: if it has been turned by 8 N ahead of them");
        // a pin that comes each 3 rows rings, with R 6, each third time: of the times 0, 3, 6, 9, ..
        for (int turned = 0; turned <= 4; turned++) {
            RungByADrum x = laid("b0,1;n3;r6;ta;");
            for (int i = 0; i < 3 * turned; i++) {
                x.turn();
            }
            due.is("the time " + (8 + turned), x.whole(2), (8 + turned) % 3 == 0 ? 0 : 1);
            due.is("the time " + turned, x.whole(1), turned % 3 == 0 ? 0 : 1);
        }
        // in both of two rows, R 2: it rings in rows 0, 3, 6, ..: of rows 16 and 17 in none
        wholeIs("b0,1;n2;r2;taa;", 1, 1, 2);
        // R 4: in rows 0, 5, 10, 15, 20: of 16 and 17 in none
        wholeIs("b0,1;n2;r4;taa;", 1, 1, 2);
        // 5 rows, R 5: in rows 0, 6, .., 36, 42: of 40 to 44 in one
        wholeIs("b0,1;n5;r5;taaaaa;", 1, 4, 4);
        // 4 rows, R 2: in rows 0, 3, .., 33, 36: of 32 to 35 in one
        wholeIs("b0,1;n4;r2;taaaa;", 2, 2, 3);
    }

    private static void wholeOnlyAsks() {
        due.part("13 nothing is turned by asking");
        RungByADrum x = laid("b0,1;n3;r6;ta;");
        for (int i = 0; i < 5; i++) {
            wholeIs(x, "a..", 1, 0, 1);
        }
        due.is("turned", x.count(4), 0);
        due.is("latest", x.count(5), 3);
        due.is("RUNG", x.bell(0, 3), 0);
        due.is("MISSED", x.bell(0, 4), 0);
        due.is("that can be undone", x.count(7), 0);
        due.is("the hammer is ready", x.turn(), 1);
    }

    // ---- promises 14 and 15

    private static void silenceFromNoneToN() {
        due.part("14 the most ROWS without a PIN (N, if there is no PIN)");
        for (int rows : new int[] {2, 3, 16, 31, 32}) {
            String head = "b0,1;n" + rows + ";";
            due.is("no pin", laid(head).silence(), rows);
            due.is("a pin in each", laid(head + "t" + "a".repeat(rows) + ";").silence(), 0);
            due.is("one without", laid(head + "t" + "a".repeat(rows - 1) + ";").silence(), 1);
            for (int row = 0; row < rows; row++) {
                due.is("one pin", laid(head + "t" + ".".repeat(row) + "a;").silence(), rows - 1);
            }
        }
    }

    private static void silenceRound() {
        due.part("14 one behind the other, round");
        due.is("the last and the first", laid("b0,1;n4;t.aa.;").silence(), 2);
        due.is("round is more", laid("b0,1;n8;t..a..a..;").silence(), 4);
        due.is("round is less", laid("b0,1;n8;t.a....a.;").silence(), 4);
        due.is("only ahead", laid("b0,1;n8;t...aaaaa;").silence(), 3);
        due.is("only at the end", laid("b0,1;n8;taaaaa...;").silence(), 3);
        due.is("any bell's pin", laid(EIGHT + "n4;th...;").silence(), 3);
        RungByADrum x = laid("b0,1;n8;taa.....a;");
        for (int k = 0; k < 8; k++) {
            due.is("shifted " + k + " times", x.silence(), 5);
            x.shift(1);
        }
    }

    private static void againFrom1ToN() {
        due.part("15 the least p (1 to N)");
        for (int rows : new int[] {2, 3, 16, 31, 32}) {
            String head = "b0,1;n" + rows + ";";
            due.is("no pin", laid(head).again(), 1);
            due.is("a pin in each", laid(head + "t" + "a".repeat(rows) + ";").again(), 1);
            due.is("one pin", laid(head + "ta;").again(), rows);
            due.is("one pin, the last row", laid(head + "t" + ".".repeat(rows - 1) + "a;").again(), rows);
            due.is("one without", laid(head + "t" + "a".repeat(rows - 1) + ";").again(), rows);
        }
        for (int p : new int[] {1, 2, 4, 8, 16, 32}) {
            RungByADrum x = laid("b0,1;n32;");
            for (int row = 0; row < 32; row += p) {
                x.pin(row, 0, true);
            }
            due.is("each " + p, x.again(), p);
        }
    }

    private static void againRound() {
        due.part("15 each ROW has the same PINS as the one p behind it, round");
        due.is("abab", laid("b0,1;b0,1;n4;tabab;").again(), 2);
        due.is("ababa is not so round", laid("b0,1;b0,1;n5;tababa;").again(), 5);
        due.is("abaaba", laid("b0,1;b0,1;n6;tabaaba;").again(), 3);
        due.is("abaabaab", laid("b0,1;b0,1;n8;tabaabaab;").again(), 8);
        due.is("p divides N only by chance of pins", laid("b0,1;b0,1;n6;tababaa;").again(), 6);
        due.is("chords", laid("b0,1;b0,1;n4;t[ab]a[ab]a;").again(), 2);
        due.is("chords unlike", laid("b0,1;b0,1;n4;t[ab]aba;").again(), 4);
        due.is("the last bell unlike", laid(EIGHT + "n2;tgh;").again(), 2);
    }

    // ---- promises 16 and 17

    private static boolean ill(int apart) {
        int m = apart % 12;
        return m == 1 || m == 2 || m == 6 || m == 10 || m == 11;
    }

    private static void illTones() {
        due.part("16 TONES are 1, 2, 6, 10 or 11 apart, modulo 12");
        for (int low = 0; low <= 40; low += 5) {
            for (int high = low; high <= 40; high++) {
                int twos = ill(high - low) ? 1 : 0;
                due.is(low + ", " + high, laid("b" + low + ",1;b" + high + ",1;t[ab];").harsh(), twos);
                due.is(high + ", " + low, laid("b" + high + ",1;b" + low + ",1;t[ab];").harsh(), twos);
                due.is("canon " + low + ", " + high, laid("b" + low + ",1;b" + high + ",1;n2;tab;").canon(1), 2 * twos);
            }
        }
    }

    private static void illOfAnEarlierText() {
        due.part("16 TONES as LAID now, none of an earlier TEXT");
        RungByADrum x = new RungByADrum();
        for (int lays = 1; lays <= 3; lays++) {
            Tell.text(due, x, "b0,1;b1,1;b2,1;n2;t[abc][abc];");
            for (int i = 0; i < lays; i++) {
                x.lay();
            }
            due.is("harsh", x.harsh(), 6);
            due.is("canon", x.canon(1), 12);
            Tell.text(due, x, "b0,1;b4,1;b7,1;n2;t[abc][abc];");
            x.lay();
            due.is("harsh", x.harsh(), 0);
            due.is("canon", x.canon(1), 0);
        }
    }

    private static void harshTwosOfOneRow() {
        due.part("16 how many twos of PINS in one ROW");
        due.is("no pin", laid("b0,1;b1,1;n2;").harsh(), 0);
        due.is("one pin in each", laid("b0,1;b1,1;n2;tab;").harsh(), 0);
        due.is("one two", laid("b0,1;b1,1;n2;t[ab];").harsh(), 1);
        due.is("in the last row", laid("b0,1;b1,1;n2;t.[ab];").harsh(), 1);
        due.is("in each row", laid("b0,1;b1,1;n32;t(([ab])8)4;").harsh(), 32);
        due.is("alike tones", laid("b5,1;b5,1;n2;t[ab];").harsh(), 0);
        String bells = "b0,1;b12,1;b24,1;b36,1;b1,1;b13,1;b25,1;b37,1;";
        due.is("four by four", laid(bells + "n2;t[abcdefgh];").harsh(), 16);
        due.is("32 rows of it", laid(bells + "n32;t(([abcdefgh])8)4;").harsh(), 512);
        due.is("the first with the last", laid(bells + "n2;t[ah];").harsh(), 1);
    }

    private static void canonIs(String text, int k, int many) {
        RungByADrum x = laid(text);
        due.is("k of " + text, x.canon(0), k);
        due.is("how many of " + text, x.canon(1), many);
    }

    private static void whatOfACanon() {
        due.part("17 what = 0, 1; BAD");
        canonIs("b0,1;b1,1;n4;tabab;", 2, 0);
        RungByADrum x = laid("b0,1;b1,1;n4;tabab;");
        for (int what : Tell.beyond(0, 1)) {
            due.is("canon(" + what + ")", x.canon(what), BAD);
        }
    }

    private static void canonOfTwoRows() {
        due.part("17 of all k (1 to N less 1): of 2 ROWS there is one");
        canonIs("b0,1;b1,1;n2;tab;", 1, 2);
        canonIs("b0,1;b1,1;n2;t[ab][ab];", 1, 4);
        canonIs("b0,1;b1,1;n2;t[ab];", 1, 0);
        canonIs("b0,1;b1,1;n2;", 1, 0);
    }

    private static void canonFrom1ToNLess1() {
        due.part("17 k (1 to N less 1): neither 0 nor N, and k is as good as N less k");
        // by 0 (and by N) there would be none that sounds ill
        canonIs("b0,1;b1,1;n3;tab;", 1, 1);
        canonIs("b0,1;b1,1;n3;taab;", 1, 2);
        // each k meets its two once: the lowest
        canonIs("b0,1;b1,1;n32;ta" + ".".repeat(30) + "b;", 2, 0);
        // only k = N / 2 is without: a in row 0, b in all others but the one half round
        for (int rows : new int[] {4, 6, 8, 16, 32}) {
            RungByADrum x = laid("b0,1;b1,1;n" + rows + ";ta;");
            for (int row = 1; row < rows; row++) {
                if (row != rows / 2) {
                    x.pin(row, 1, true);
                }
            }
            due.is("half round of " + rows, x.canon(0), rows / 2);
            due.is("how many", x.canon(1), 0);
        }
    }

    private static void canonLowestOfSeveral() {
        due.part("17 of several the lowest");
        canonIs("b0,1;n32;", 1, 0);
        canonIs("b0,1;n32;t((a)8)4;", 1, 0);
        canonIs("b0,1;b1,1;n5;tab;", 2, 0);
        canonIs("b0,1;b1,1;n7;ta.b;", 1, 0);
        canonIs("b0,1;b1,1;n7;tab.b;", 2, 0);
        canonIs("b0,1;b1,1;n32;t(([ab])8)4;", 1, 64);
        // by 1, 2, 3, 4 of five rows a with each b once: all alike
        canonIs("b0,1;b1,1;n5;tabbbb;", 1, 2);
    }

    private static void canonRound() {
        due.part("17 a PIN in a ROW and a PIN in the ROW k ahead of it, round, for all ROWS");
        canonIs("b0,1;b1,1;n4;ta..b;", 2, 0);
        canonIs("b0,1;b1,1;n3;ta.b;", 1, 1);
        canonIs("b0,1;b1,1;b2,1;n3;ta[bc];", 1, 2);
        canonIs("b0,1;b1,1;b2,1;n2;ta[bc];", 1, 4);
        // ab ab ..: by 1 all, by 2 none; half round by 2 of 4, both from either side
        canonIs("b0,1;b1,1;n4;taabb;", 1, 2);
        RungByADrum x = laid("b0,1;b1,1;n6;tabb...;");
        for (int k = 0; k < 6; k++) {
            due.is("shifted " + k + " times: k", x.canon(0), 3);
            due.is("how many", x.canon(1), 0);
            x.shift(1);
        }
    }
}
