/** The edges of promises 8 to 12, of rows turned, hammers, pins, shifts, undoing: each method is a sentence. */
public final class DrumEdgeTest {
    private static final int BAD = RungByADrum.BAD, NO = RungByADrum.NO;
    private static final Due due = new Due();
    private static final String EIGHT = Tell.bells(8);
    private static final String ALL = "[abcdefgh]";

    public static void main(String[] args) {
        row0First();
        behindTheLastTheFirst();
        backFromNoneTheLast();
        backFromTheFirstTheLast();
        turnedForthAndBack();
        hammerNeedsRRows();
        twoHammersNeedRRows();
        theLatestRowsThatCame();
        theFirstHammerThatCan();
        missedRowsDoNotHoldAHammer();
        rowWithoutAPinIsARowThatCame();
        everyBellByItself();
        pinsOfRowsAndBellsThereAre();
        pinFromNoneToAll();
        pinIsSoAlready();
        badAheadOfNo();
        aPinPutInRings();
        shiftedBy0ToNLess1();
        shiftedRound();
        shiftedTheDrumStays();
        undoOfNone();
        theLast8CanBe();
        undoneByKind();
        undoneOverTheSeam();
        onlyTurnsPinsShifts();
        refusedCannotBeUndone();
        fiveHundredAndTwelveCalls();
        due.end();
    }

    private static RungByADrum laid(String text) {
        return Tell.laid(due, text);
    }

    /** A drum whose row i has the bits of i + 1, so that each row is told by what rings. */
    private static RungByADrum numbered(int rows) {
        RungByADrum x = laid(EIGHT + "r0;n" + rows + ";");
        for (int row = 0; row < rows; row++) {
            for (int b = 0; b < 6; b++) {
                if ((row + 1 >> b & 1) == 1) {
                    x.pin(row, b, true);
                }
            }
        }
        return x;
    }

    // ---- promises 8 and 9: which row comes

    private static void row0First() {
        due.part("8 ROW 0 first");
        for (int rows : new int[] {2, 3, 16, 31, 32}) {
            RungByADrum x = numbered(rows);
            due.is("none as yet", x.count(5), rows);
            due.is("turn of " + rows, x.turn(), 1);
            due.is("the row", x.count(5), 0);
            due.is("turned", x.count(4), 1);
        }
    }

    private static void behindTheLastTheFirst() {
        due.part("8 behind the last one the first again");
        for (int rows : new int[] {2, 3, 31, 32}) {
            RungByADrum x = numbered(rows);
            for (int i = 0; i < 2 * rows + 1; i++) {
                due.is("turn " + i + " of " + rows, x.turn(), i % rows + 1);
                due.is("the row", x.count(5), i % rows);
            }
        }
    }

    private static void backFromNoneTheLast() {
        due.part("9 of none as yet the last one");
        for (int rows : new int[] {2, 3, 16, 31, 32}) {
            RungByADrum x = numbered(rows);
            due.is("turnBack of " + rows, x.turnBack(), rows);
            due.is("the row", x.count(5), rows - 1);
            due.is("turned", x.count(4), 1);
            due.is("forth again the first", x.turn(), 1);
        }
    }

    private static void backFromTheFirstTheLast() {
        due.part("9 the one ahead of the latest, round");
        for (int rows : new int[] {2, 3, 31, 32}) {
            RungByADrum x = numbered(rows);
            x.turn();
            for (int i = 1; i < 2 * rows + 1; i++) {
                int row = (2 * rows + 1 - i + rows - 1) % rows;
                due.is("turnBack " + i + " of " + rows, x.turnBack(), row + 1);
                due.is("the row", x.count(5), row);
            }
        }
    }

    private static void turnedForthAndBack() {
        due.part("8, 9 either way over the first and the last ROW");
        RungByADrum x = numbered(5);
        due.is("turn", x.turn(), 1);
        due.is("back", x.turnBack(), 5);
        due.is("turn", x.turn(), 1);
        due.is("turn", x.turn(), 2);
        due.is("back", x.turnBack(), 1);
        due.is("back", x.turnBack(), 5);
        due.is("back", x.turnBack(), 4);
        due.is("turn", x.turn(), 5);
        due.is("turn", x.turn(), 1);
        due.is("turned either way", x.count(4), 9);
    }

    // ---- promises 8 and 9: hammers

    /** Of one bell with a pin in every row: it rings first, then again so many rows later, not sooner. */
    private static void hammerNeedsRRows() {
        due.part("8 has not rung it in the latest R ROWS that came ahead");
        for (int rest = 0; rest <= 6; rest++) {
            RungByADrum x = laid("b0,1;n2;r" + rest + ";taa;");
            RungByADrum y = laid("b0,1;n2;r" + rest + ";taa;");
            for (int i = 0; i < 30; i++) {
                int rings = i % (rest + 1) == 0 ? 1 : 0;
                due.is("turn " + i + ", R " + rest, x.turn(), rings);
                due.is("turnBack " + i + ", R " + rest, y.turnBack(), rings);
            }
            int rung = (30 + rest) / (rest + 1);
            due.is("RUNG, R " + rest, x.bell(0, 3), rung);
            due.is("MISSED, R " + rest, x.bell(0, 4), 30 - rung);
        }
    }

    private static void twoHammersNeedRRows() {
        due.part("8 one of its HAMMERS");
        for (int rest = 0; rest <= 6; rest++) {
            RungByADrum x = laid("b0,2;n2;r" + rest + ";taa;");
            for (int i = 0; i < 30; i++) {
                due.is("turn " + i + ", R " + rest, x.turn(), i % (rest + 1) < 2 ? 1 : 0);
            }
        }
    }

    /** Two pins so many rows from one another: the second one rings if they are more than R apart. */
    private static void theLatestRowsThatCame() {
        due.part("8 in the latest R ROWS that came: R apart is MISSED, R and 1 apart RINGS");
        for (int rest = 0; rest <= 6; rest++) {
            for (int apart = 1; apart <= 8; apart++) {
                String text = "b0,1;n20;r" + rest + ";ta" + ".".repeat(apart - 1) + "a;";
                RungByADrum x = laid(text);
                due.is("the first", x.turn(), 1);
                for (int i = 1; i < apart; i++) {
                    due.is("between", x.turn(), 0);
                }
                due.is(apart + " apart, R " + rest, x.turn(), apart > rest ? 1 : 0);
                due.is("MISSED", x.bell(0, 4), apart > rest ? 0 : 1);
            }
        }
        // round: the last row and the first stand one behind the other, either way
        RungByADrum x = laid("b0,1;n5;r1;ta...a;");
        due.is("row 4", x.turnBack(), 1);
        due.is("row 0, at once behind it", x.turn(), 0);
        x = laid("b0,1;n5;r1;ta...a;");
        due.is("row 0", x.turn(), 1);
        due.is("row 4, at once behind it", x.turnBack(), 0);
        // the same row again, with one between
        x = laid("b0,1;n5;r1;ta;");
        due.is("row 0", x.turn(), 1);
        due.is("row 1", x.turn(), 0);
        due.is("row 0, 2 behind", x.turnBack(), 1);
        x = laid("b0,1;n5;r2;ta;");
        due.is("row 0", x.turn(), 1);
        due.is("row 1", x.turn(), 0);
        due.is("row 0, 2 behind", x.turnBack(), 0);
    }

    private static void theFirstHammerThatCan() {
        due.part("8 (the first such)");
        // R 2, rows 0, 3, 4, 5: the first hammer in 0 and in 3, the second in 4, none in 5, the first in 6
        RungByADrum x = laid("b0,2;n7;r2;ta..aaaa;");
        int[] rings = {1, 0, 0, 1, 1, 0, 1};
        for (int row = 0; row < rings.length; row++) {
            due.is("row " + row, x.turn(), rings[row]);
        }
        // R 3, rows 0, 2, 4, 5, 6: first, second, first (4), none (5), second (6)
        x = laid("b0,2;n9;r3;ta.a.aaa;");
        int[] others = {1, 0, 1, 0, 1, 0, 1};
        for (int row = 0; row < others.length; row++) {
            due.is("row " + row, x.turn(), others[row]);
        }
    }

    private static void missedRowsDoNotHoldAHammer() {
        due.part("8 has not rung it: what is MISSED does not count");
        RungByADrum x = laid("b0,1;n8;r6;taaaaaaaa;");
        for (int row = 0; row < 8; row++) {
            due.is("row " + row, x.turn(), row == 0 || row == 7 ? 1 : 0);
        }
    }

    private static void rowWithoutAPinIsARowThatCame() {
        due.part("8 ROWS that came: without a PIN too");
        RungByADrum x = laid("b0,1;n9;r6;ta......a;");
        due.is("row 0", x.turn(), 1);
        for (int row = 1; row < 7; row++) {
            due.is("row " + row, x.turn(), 0);
        }
        due.is("row 7", x.turn(), 1);
    }

    private static void everyBellByItself() {
        due.part("8 each BELL with a PIN in it RINGS");
        RungByADrum x = laid("b0,1;b0,2;b0,1;b0,2;b0,1;b0,2;b0,1;b0,2;n2;r1;t" + ALL + ALL + ";");
        due.is("all", x.turn(), 255);
        due.is("those with two hammers", x.turn(), 170);
        due.is("all", x.turnBack(), 255);
        for (int b = 0; b < 8; b++) {
            due.is("RUNG", x.bell(b, 3), 2 + b % 2);
            due.is("MISSED", x.bell(b, 4), 1 - b % 2);
        }
        x = laid(EIGHT + "n2;r6;tah;");
        due.is("the first", x.turn(), 1);
        due.is("the last", x.turn(), 128);
        due.is("none", x.turn(), 0);
        due.is("no pin rings", laid(EIGHT).turn(), 0);
        due.is("no pin rings", laid(EIGHT).turnBack(), 0);
    }

    // ---- promise 10

    private static void pinsOfRowsAndBellsThereAre() {
        due.part("10 BAD (BELLS, ROWS: such as there are)");
        for (int bells : new int[] {1, 2, 7, 8}) {
            for (int rows : new int[] {2, 16, 31, 32}) {
                RungByADrum x = laid(Tell.bells(bells) + "n" + rows + ";");
                for (boolean in : new boolean[] {true, false}) {
                    for (int row : Tell.beyond(0, rows - 1)) {
                        due.is("pin(" + row + ", 0, " + in + ")", x.pin(row, 0, in), BAD);
                    }
                    for (int b : Tell.beyond(0, bells - 1)) {
                        due.is("pin(0, " + b + ", " + in + ")", x.pin(0, b, in), BAD);
                    }
                    due.is("neither", x.pin(rows, bells, in), BAD);
                    due.is("neither", x.pin(-1, -1, in), BAD);
                }
                due.is("PINS", x.count(3), 0);
                due.is("the last bell in the last row", x.pin(rows - 1, bells - 1, true), 1);
                due.is("pins of it", x.pins(rows - 1), 1 << bells - 1);
                due.is("the first bell in the first row", x.pin(0, 0, true), 1);
                due.is("pins of it", x.pins(0), 1);
                due.is("PINS", x.count(3), 2);
            }
        }
    }

    private static void pinFromNoneToAll() {
        due.part("10 how many there are in the ROW");
        RungByADrum x = laid(EIGHT + "n2;");
        for (int b = 0; b < 8; b++) {
            due.is("in", x.pin(1, b, true), b + 1);
            due.is("pins of the bell", x.bell(b, 2), 1);
        }
        due.is("all", x.pins(1), 255);
        due.is("the other row", x.pins(0), 0);
        for (int b = 0; b < 8; b++) {
            due.is("out", x.pin(1, b, false), 7 - b);
        }
        due.is("none", x.pins(1), 0);
        due.is("PINS", x.count(3), 0);
    }

    private static void pinIsSoAlready() {
        due.part("10 NO: it is so already");
        RungByADrum x = laid(EIGHT + "n2;t" + ALL + ";");
        for (int b = 0; b < 8; b++) {
            due.is("in already", x.pin(0, b, true), NO);
            due.is("out already", x.pin(1, b, false), NO);
        }
        Tell.rowsAre(due, x, 255, 0);
        due.is("nothing to undo", x.count(7), 0);
        due.is("out", x.pin(0, 7, false), 7);
        due.is("out already", x.pin(0, 7, false), NO);
        due.is("in", x.pin(0, 7, true), 8);
        due.is("in already", x.pin(0, 7, true), NO);
    }

    private static void badAheadOfNo() {
        due.part("10 BAD; NO: of several the first");
        RungByADrum x = laid("b0,1;n2;ta;");
        // a row or a bell that there is not has no pin, yet that is BAD, not NO
        due.is("no such row", x.pin(2, 0, false), BAD);
        due.is("no such bell", x.pin(0, 1, false), BAD);
        due.is("no such bell", x.pin(0, 32, true), BAD);
        due.is("no such row", x.pin(32, 0, true), BAD);
    }

    private static void aPinPutInRings() {
        due.part("10 A PIN is PUT in, taken out: the next time its ROW comes");
        RungByADrum x = laid("b0,1;n2;r0;");
        due.is("none", x.turn(), 0);
        x.pin(0, 0, true);
        x.pin(1, 0, true);
        due.is("in", x.turn(), 1);
        due.is("in", x.turn(), 1);
        x.pin(1, 0, false);
        due.is("out", x.turn(), 0);
        due.is("RUNG", x.bell(0, 3), 2);
        due.is("MISSED", x.bell(0, 4), 0);
    }

    // ---- promise 11

    private static void shiftedBy0ToNLess1() {
        due.part("11 k (0 to N less 1); BAD");
        for (int rows : new int[] {2, 3, 16, 31, 32}) {
            RungByADrum x = numbered(rows);
            for (int k : Tell.beyond(0, rows - 1)) {
                due.is("shift(" + k + ") of " + rows, x.shift(k), BAD);
            }
            due.is("the first row", x.pins(0), 1);
            due.is("shift(0)", x.shift(0), 1);
            due.is("shift(" + (rows - 1) + ")", x.shift(rows - 1), 2);
        }
    }

    private static void shiftedRound() {
        due.part("11 what was in a ROW is in the one k behind it then, round");
        for (int rows : new int[] {2, 5, 32}) {
            RungByADrum x = numbered(rows);
            for (int row = 0; row < rows; row++) {
                due.is("pins(" + row + ")", x.pins(row), row + 1);
            }
            due.is("by 1", x.shift(1), rows);
            for (int row = 0; row < rows; row++) {
                due.is("pins(" + row + ")", x.pins(row), row == 0 ? rows : row);
            }
            due.is("by N less 1: as it was", x.shift(rows - 1), 1);
            for (int row = 0; row < rows; row++) {
                due.is("pins(" + row + ")", x.pins(row), row + 1);
            }
            due.is("by 0: as it is", x.shift(0), 1);
            due.is("the last row", x.pins(rows - 1), rows);
        }
        for (int k = 0; k < 5; k++) {
            RungByADrum x = numbered(5);
            due.is("shift(" + k + ")", x.shift(k), (5 - k) % 5 + 1);
            for (int row = 0; row < 5; row++) {
                due.is("from row " + row, x.pins((row + k) % 5), row + 1);
            }
        }
        due.is("no pin", laid("b0,1;n2;").shift(1), 0);
    }

    private static void shiftedTheDrumStays() {
        due.part("11 all PINS be SHIFTED: where the drum is, what hammers did stay");
        RungByADrum x = laid("b0,1;n4;r2;ta;");
        due.is("row 0", x.turn(), 1);
        due.is("its pin to row 1", x.shift(1), 0);
        due.is("latest", x.count(5), 0);
        due.is("turned", x.count(4), 1);
        due.is("row 1: the hammer is not ready", x.turn(), 0);
        due.is("MISSED", x.bell(0, 4), 1);
        due.is("its pin to row 3", x.shift(2), 0);
        due.is("row 2", x.turn(), 0);
        due.is("row 3", x.turn(), 1);
        x = laid("b0,1;n4;r2;ta;");
        x.shift(3);
        due.is("none as yet", x.count(5), 4);
        due.is("row 0", x.turn(), 0);
        due.is("row 3", x.turnBack(), 1);
    }

    // ---- promise 12

    private static void undoOfNone() {
        due.part("12 NO");
        RungByADrum x = new RungByADrum();
        due.is("of none", x.undo(), NO);
        due.is("of none again", x.undo(), NO);
        due.is("as it was", x.count(3), 11);
        x.turn();
        due.is("of one", x.undo(), 0);
        due.is("of none", x.undo(), NO);
        due.is("none as yet", x.count(5), 14);
        due.is("turned", x.count(4), 0);
    }

    private static void theLast8CanBe() {
        due.part("12 (the last 8 can be)");
        for (int calls = 0; calls <= 20; calls++) {
            RungByADrum x = numbered(3);
            x.lay();
            for (int i = 0; i < calls; i++) {
                x.turn();
                due.is("that can be", x.count(7), Math.min(i + 1, 8));
            }
            int can = Math.min(calls, 8);
            for (int more = can - 1; more >= 0; more--) {
                due.is("undo of " + calls, x.undo(), more);
                due.is("that can be", x.count(7), more);
                due.is("turned", x.count(4), calls - can + more);
            }
            due.is("no more", x.undo(), NO);
            due.is("turned", x.count(4), calls - can);
        }
        // between them some are undone: what fell out of the last 8 does not come again
        RungByADrum x = laid("b0,1;n32;r0;");
        for (int i = 0; i < 10; i++) {
            x.turn();
        }
        for (int i = 0; i < 5; i++) {
            x.undo();
        }
        due.is("that can be", x.count(7), 3);
        for (int i = 0; i < 4; i++) {
            x.turn();
        }
        due.is("that can be", x.count(7), 7);
        for (int more = 6; more >= 0; more--) {
            due.is("undo", x.undo(), more);
        }
        due.is("no more", x.undo(), NO);
        due.is("turned", x.count(4), 2);
        due.is("latest", x.count(5), 1);
    }

    private static void undoneByKind() {
        due.part("12 UNDONE is the latest of ROWS turned, PINS, SHIFTS");
        RungByADrum x = laid("b0,1;b0,2;n3;r2;t[ab]b;");
        due.is("turn", x.turn(), 3);
        due.is("turnBack", x.turnBack(), 0);
        due.is("pin in", x.pin(2, 0, true), 1);
        due.is("pin out", x.pin(0, 1, false), 1);
        due.is("shift", x.shift(1), 1);
        due.is("turn", x.turn(), 0);
        due.is("MISSED", x.bell(0, 4), 1);
        due.is("the turn", x.undo(), 5);
        due.is("latest", x.count(5), 2);
        due.is("MISSED", x.bell(0, 4), 0);
        Tell.rowsAre(due, x, 1, 1, 2);
        due.is("the shift", x.undo(), 4);
        Tell.rowsAre(due, x, 1, 2, 1);
        due.is("the pin out", x.undo(), 3);
        Tell.rowsAre(due, x, 3, 2, 1);
        due.is("the pin in", x.undo(), 2);
        Tell.rowsAre(due, x, 3, 2, 0);
        due.is("the turn back", x.undo(), 1);
        due.is("latest", x.count(5), 0);
        due.is("turned", x.count(4), 1);
        due.is("RUNG", x.bell(1, 3), 1);
        due.is("b's second hammer is ready", x.turn(), 2);
        due.is("undo", x.undo(), 1);
        due.is("undo", x.undo(), 0);
        due.is("both hammers are ready", x.turn(), 3);
    }

    private static void undoneOverTheSeam() {
        due.part("12 undone over the first and the last ROW");
        RungByADrum x = laid("b0,1;n2;r1;ta;");
        x.turn();
        x.turn();
        x.turn();
        due.is("row 0 again", x.count(5), 0);
        due.is("undo", x.undo(), 2);
        due.is("row 1", x.count(5), 1);
        due.is("undo", x.undo(), 1);
        due.is("undo", x.undo(), 0);
        due.is("none as yet", x.count(5), 2);
        due.is("the last one", x.turnBack(), 0);
        due.is("row 1", x.count(5), 1);
        due.is("undo", x.undo(), 0);
        due.is("none as yet", x.count(5), 2);
        due.is("the first one", x.turn(), 1);
    }

    private static void onlyTurnsPinsShifts() {
        due.part("12 of ROWS turned, PINS, SHIFTS: nothing else");
        RungByADrum x = laid("b0,1;n2;ta;");
        x.want(0, 1);
        x.hear(1);
        x.keep();
        x.write('x');
        x.winter(0, 1, 0);
        x.whole(2);
        x.forget();
        x.hear(0);
        due.is("that can be", x.count(7), 0);
        due.is("undo", x.undo(), NO);
        x.shift(0);
        due.is("a shift by 0 can be", x.count(7), 1);
        x.want(1, 1);
        x.wipe();
        due.is("undo", x.undo(), 0);
        due.is("wanted stays", x.want(0, 0), 1);
        due.is("wanted stays", x.want(1, 0), 1);
        due.is("heard stays", x.count(6), 1);
        due.is("kept stays", x.count(8), 1);
        due.is("the text stays", x.count(9), 0);
    }

    private static void refusedCannotBeUndone() {
        due.part("12 a refused call is none of these");
        RungByADrum x = laid("b0,1;n2;ta;");
        x.pin(0, 0, true);
        x.pin(1, 0, false);
        x.pin(2, 0, true);
        x.pin(0, 1, true);
        x.shift(2);
        x.shift(-1);
        x.undo();
        due.is("that can be", x.count(7), 0);
        for (int i = 0; i < 8; i++) {
            x.turn();
        }
        x.pin(0, 0, true);
        x.shift(2);
        for (int more = 7; more >= 0; more--) {
            due.is("undo", x.undo(), more);
        }
        due.is("turned", x.count(4), 0);
    }

    private static void fiveHundredAndTwelveCalls() {
        due.part("An object is used for at most 512 calls");
        RungByADrum x = new RungByADrum();
        for (int i = 0; i < 510; i++) {
            due.is("turnBack", x.turnBack(), firstDrumBack(i));
        }
        due.is("call 511: turned", x.count(4), 510);
        due.is("call 512: the row", x.count(5), (510 * 13) % 14);
        x = new RungByADrum();
        for (int i = 0; i < 503; i++) {
            x.turn();
        }
        for (int more = 7; more >= 0; more--) {
            due.is("undo", x.undo(), more);
        }
        due.is("call 512: turned", x.count(4), 495);
    }

    /** What rings on the first drum turned back: bell c has two hammers, no other bell is in rows beside one another. */
    private static int firstDrumBack(int i) {
        int[] rows = {1, 2, 1, 2, 5, 0, 0, 4, 2, 4, 2, 4, 0, 0};
        return rows[13 - i % 14];
    }
}
