/** Each promise of the document by its number: ordinary calls, the edges that it names, wrong numbers. */
public final class PromiseTest {
    private static final int BAD = RungByADrum.BAD, NO = RungByADrum.NO, FULL = RungByADrum.FULL, NONE = RungByADrum.NONE;
    private static final Due due = new Due();

    public static void main(String[] args) {
        newObject();
        writeAndWipe();
        faultOfNumbers();
        faultOfTunes();
        lay();
        bellAndPins();
        turnAndTurnBack();
        hammers();
        pin();
        shift();
        undo();
        whole();
        silenceAndAgain();
        harsh();
        canon();
        wantAndChanges();
        letters();
        ringers();
        hearForgetStood();
        octavesAndMelody();
        winter();
        keepAndBack();
        count();
        laidAnew();
        fullTower();
        due.end();
    }

    private static void tell(RungByADrum x, String text) {
        x.wipe();
        for (int i = 0; i < text.length(); i++) {
            due.is("write in " + text, x.write(text.charAt(i)), i + 1);
        }
    }

    private static RungByADrum laid(String text) {
        RungByADrum x = new RungByADrum();
        tell(x, text);
        due.holds("lay of " + text, x.lay() >= 0);
        return x;
    }

    private static void faultIs(String text, int place) {
        RungByADrum x = new RungByADrum();
        tell(x, text);
        due.is("fault of " + text, x.fault(), place);
        if (place != NONE) {
            due.is("lay of " + text, x.lay(), NO);
            due.is("rows behind a lay that is refused", x.count(1), 14);
        }
    }

    private static void rowsAre(RungByADrum x, int... sets) {
        for (int row = 0; row < sets.length; row++) {
            due.is("pins(" + row + ")", x.pins(row), sets[row]);
        }
        due.is("pins behind the last row", x.pins(sets.length), BAD);
    }

    private static void newObject() {
        due.part("promise 1");
        RungByADrum x = new RungByADrum();
        rowsAre(x, 1, 2, 1, 2, 5, 0, 0, 4, 2, 4, 2, 4, 0, 0);
        int[] counts = {3, 14, 1, 11, 0, 14, 0, 0, 0, 0};
        for (int what = 0; what < counts.length; what++) {
            due.is("count(" + what + ")", x.count(what), counts[what]);
        }
        int[] tones = {0, 4, 7};
        int[] hammers = {1, 1, 2};
        for (int b = 0; b < 3; b++) {
            due.is("tone", x.bell(b, 0), tones[b]);
            due.is("hammers", x.bell(b, 1), hammers[b]);
            due.is("rung", x.bell(b, 3), 0);
            due.is("missed", x.bell(b, 4), 0);
        }
        due.is("undo", x.undo(), NO);
        due.is("back", x.back(), NO);
        due.is("forget", x.forget(), 0);
        for (int row = 0; row < 14; row++) {
            due.is("want", x.want(row, 0), 0);
        }
        due.is("lay of the empty text", x.lay(), NO);
    }

    private static void writeAndWipe() {
        due.part("promises 2 and 3");
        RungByADrum x = new RungByADrum();
        due.is("wipe", x.wipe(), 0);
        for (int letter : new int[] {31, 127, 0, -1, 128, Integer.MIN_VALUE, Integer.MAX_VALUE}) {
            due.is("write(" + letter + ")", x.write(letter), BAD);
        }
        due.is("write(32)", x.write(32), 1);
        due.is("write(126)", x.write(126), 2);
        for (int i = 3; i <= 200; i++) {
            due.is("write(46)", x.write('.'), i);
        }
        due.is("write in a full text", x.write('.'), FULL);
        due.is("a wrong letter in a full text", x.write(31), BAD);
        due.is("count(9)", x.count(9), 200);
        due.is("wipe", x.wipe(), 200);
        due.is("wipe", x.wipe(), 0);
        due.is("count(9)", x.count(9), 0);
        due.is("write", x.write('b'), 1);
        due.is("fault of what is left of it", x.fault(), 0);
    }

    private static void faultOfNumbers() {
        due.part("promise 4, numbers");
        faultIs("", NONE);
        faultIs("b0,1;", NONE);
        faultIs("b40,2;", NONE);
        faultIs("b00,01;", NONE);
        faultIs("b41,1;", 0);
        faultIs("b0,0;", 0);
        faultIs("b0,3;", 0);
        faultIs("b007,1;", 0);
        faultIs("b7,001;", 0);
        faultIs("b7;", 0);
        faultIs("b7,;", 0);
        faultIs("b,1;", 0);
        faultIs("b7,1,1;", 0);
        faultIs("b-1,1;", 0);
        faultIs("b7, 1;", 0);
        faultIs("b7,1", 0);
        faultIs("b0,1;b7,1", 5);
        faultIs("b0,1;;", 5);
        faultIs("b0,1; n4;", 5);
        faultIs("B0,1;", 0);
        faultIs("x;", 0);
        faultIs("b0,1;b0,1;b0,1;b0,1;b0,1;b0,1;b0,1;b0,1;", NONE);
        faultIs("b0,1;b0,1;b0,1;b0,1;b0,1;b0,1;b0,1;b0,1;b0,1;", 40);
        faultIs("n2;", NONE);
        faultIs("n32;", NONE);
        faultIs("n02;n9;", NONE);
        faultIs("n1;", 0);
        faultIs("n33;", 0);
        faultIs("n1;n9;", 0);
        faultIs("n9;n1;", 3);
        faultIs("n;", 0);
        faultIs("n012;", 0);
        faultIs("r0;", NONE);
        faultIs("r6;r00;", NONE);
        faultIs("r7;", 0);
        faultIs("r;", 0);
        faultIs("r1;r9;b41,1;", 3);
    }

    private static void faultOfTunes() {
        due.part("promise 4, tunes");
        String two = "b0,1;b1,1;";
        faultIs("t.;", NONE);
        faultIs("t;", 0);
        faultIs("ta;", 0);
        faultIs("ta;b0,1;", 0);
        faultIs("b0,1;tab;b0,1;", 5);
        faultIs(two + "tab.;", NONE);
        faultIs(two + "tabc;", 10);
        faultIs(two + "tA;", 10);
        faultIs(two + "ta b;", 10);
        faultIs(two + "ta;tb;", 13);
        faultIs(two + "ta;n3;t.;", 16);
        faultIs(two + "t[ab];", NONE);
        faultIs(two + "t[ba];", 10);
        faultIs(two + "t[aa];", 10);
        faultIs(two + "t[a];", 10);
        faultIs(two + "t[];", 10);
        faultIs(two + "t[ac];", 10);
        faultIs(two + "t[a.b];", 10);
        faultIs(two + "t[ab;", 10);
        faultIs(two + "t[a[b]];", 10);
        faultIs(two + "tab];", 10);
        faultIs(two + "t(a)2;", NONE);
        faultIs(two + "t(a)9;", NONE);
        faultIs(two + "t(a)1;", 10);
        faultIs(two + "t(a)0;", 10);
        faultIs(two + "t(a);", 10);
        faultIs(two + "t(a)12;", 10);
        faultIs(two + "t(a)22;", 10);
        faultIs(two + "t()2;", 10);
        faultIs(two + "ta()2;", 10);
        faultIs(two + "t(a;", 10);
        faultIs(two + "t(a2;", 10);
        faultIs(two + "ta)2;", 10);
        faultIs(two + "t((a)2;", 10);
        faultIs(two + "t(((a)2)2)2;", NONE);
        faultIs(two + "t(((a)2.)2(.((a)2)", 10);
        faultIs(two + "t((((a)2)2)2)2;", 10);
        faultIs(two + "t((a)2(a)2)2((a)2)2;", NONE);
        faultIs(two + "t((a)8)4;", NONE);
        faultIs(two + "t((a)8)4.;", 10);
        faultIs(two + "t.((a)8)4;", 10);
        faultIs(two + "t(((a)9)9)9;", 10);
        faultIs(two + "t(a)8(b)8(.)8([ab])8;", NONE);
        faultIs(two + "t(a)8(b)8(.)8([ab])8b;", 10);
        faultIs(two + "t................................;", NONE);
        faultIs(two + "t.................................;", 10);
        faultIs(two + "ta", 10);
    }

    private static void lay() {
        due.part("promise 5");
        RungByADrum x = new RungByADrum();
        tell(x, "b5,1;b9,2;t(a)2[ab].b;");
        due.is("lay", x.lay(), 5);
        due.is("the text stays", x.count(9), 22);
        due.is("16 rows without", x.count(1), 16);
        due.is("R is 1 without", x.count(2), 1);
        rowsAre(x, 1, 1, 3, 0, 2, 0, 0, 0, 0, 0, 0, 0, 0, 0, 0, 0);
        x.turn();
        x.turn();
        x.want(3, 2);
        x.hear(1);
        x.keep();
        x.pin(15, 0, true);
        due.is("laid again", x.lay(), 5);
        due.is("no rows turned", x.count(4), 0);
        due.is("no row came last", x.count(5), 16);
        due.is("nothing heard", x.count(6), 0);
        due.is("nothing can be undone", x.count(7), 0);
        due.is("nothing kept", x.count(8), 0);
        due.is("rung", x.bell(0, 3), 0);
        due.is("missed", x.bell(0, 4), 0);
        due.is("nothing wanted", x.want(3, 0), 0);
        due.is("pins as told", x.pins(15), 0);
        due.is("hammers are ready", x.turn(), 1);
        due.is("undo", x.undo(), 0);
        tell(x, "b5,1;n3;n5;r6;taaaaa;r2;n6;n5;");
        due.is("the last n and r count", x.lay(), 5);
        due.is("ROWS", x.count(1), 5);
        due.is("R", x.count(2), 2);
        x.turn();
        x.wipe();
        tell(x, "b5,1;n5;taaaaa;n4;");
        due.is("no fault", x.fault(), NONE);
        due.is("a tune longer than the drum", x.lay(), NO);
        due.is("nothing changes", x.count(4), 1);
        due.is("ROWS", x.count(1), 5);
        tell(x, "b5,1;t(.)9(.)8;");
        due.is("17 rows of 16", x.lay(), NO);
        tell(x, "n5;t.;");
        due.is("no fault", x.fault(), NONE);
        due.is("no bell", x.lay(), NO);
        tell(x, "b5,1;b");
        due.is("fault", x.lay(), NO);
        due.is("nothing changes", x.count(4), 1);
        tell(x, "b5,1;n2;");
        due.is("without a tune", x.lay(), 0);
        rowsAre(x, 0, 0);
        tell(x, "b5,1;n32;t((a.)8)2;");
        due.is("32 rows", x.lay(), 32);
        due.is("pins(30)", x.pins(30), 1);
        tell(x, "b1,1;b1,1;b1,1;b1,1;b1,1;b1,1;b1,1;b1,1;n9;t((ah)2[abcdefgh])1;");
        due.is("a wrong figure", x.lay(), NO);
        tell(x, "b1,1;b1,1;b1,1;b1,1;b1,1;b1,1;b1,1;b1,1;n13;t((ah)2[abcdefgh].)2b;");
        due.is("nested", x.lay(), 13);
        rowsAre(x, 1, 128, 1, 128, 255, 0, 1, 128, 1, 128, 255, 0, 2);
    }

    private static void bellAndPins() {
        due.part("promises 6 and 7");
        RungByADrum x = laid("b40,2;b3,1;n4;r3;taa[ab];");
        int[][] want = {{40, 2, 3, 0, 0}, {3, 1, 1, 0, 0}};
        for (int b = 0; b < 2; b++) {
            for (int what = 0; what < 5; what++) {
                due.is("bell(" + b + ", " + what + ")", x.bell(b, what), want[b][what]);
            }
            due.is("what = 5", x.bell(b, 5), BAD);
            due.is("what = -1", x.bell(b, -1), BAD);
        }
        due.is("bell(2, 0)", x.bell(2, 0), BAD);
        due.is("bell(-1, 0)", x.bell(-1, 0), BAD);
        due.is("bell(MAX, 3)", x.bell(Integer.MAX_VALUE, 3), BAD);
        x.turn();
        x.turn();
        x.turn();
        due.is("a rung", x.bell(0, 3), 2);
        due.is("a missed", x.bell(0, 4), 1);
        due.is("b rung", x.bell(1, 3), 1);
        due.is("b missed", x.bell(1, 4), 0);
        rowsAre(x, 1, 1, 3, 0);
        due.is("pins(-1)", x.pins(-1), BAD);
        due.is("pins(MIN)", x.pins(Integer.MIN_VALUE), BAD);
    }

    private static void turnAndTurnBack() {
        due.part("promises 8 and 9");
        RungByADrum x = laid("b0,1;b1,1;b2,1;n3;r0;tab[bc];");
        int[] on = {1, 2, 6, 1, 2};
        for (int i = 0; i < on.length; i++) {
            due.is("turn", x.turn(), on[i]);
            due.is("the row that came", x.count(5), i % 3);
        }
        due.is("turnBack", x.turnBack(), 1);
        due.is("turnBack past the first row", x.turnBack(), 6);
        due.is("the row that came", x.count(5), 2);
        due.is("turn past the last row", x.turn(), 1);
        due.is("rows turned either way", x.count(4), 8);
        x = laid("b0,1;b1,1;b2,1;n3;r0;tab[bc];");
        due.is("turnBack first", x.turnBack(), 6);
        due.is("the row that came", x.count(5), 2);
        due.is("turnBack", x.turnBack(), 2);
        due.is("turn", x.turn(), 6);
    }

    private static void hammers() {
        due.part("promises 8 and 9, hammers");
        ringsAre("b0,1;n2;r0;taa;", "111111");
        ringsAre("b0,1;n2;r1;taa;", "101010");
        ringsAre("b0,1;n2;r2;taa;", "1001001");
        ringsAre("b0,1;n2;r6;taa;", "100000010000001");
        ringsAre("b0,2;n2;r1;taa;", "111111");
        ringsAre("b0,2;n2;r2;taa;", "110110110");
        ringsAre("b0,2;n2;r6;taa;", "110000011000001");
        ringsAre("b0,2;n4;r3;ta.a;", "10101010");
        ringsAre("b0,2;n3;r4;taa;", "110000110");
        // a row that comes again at once: forth and back over one pin
        RungByADrum x = laid("b0,1;n3;r1;ta.a;");
        due.is("row 0", x.turn(), 1);
        due.is("back to row 2, one row behind it", x.turnBack(), 0);
        due.is("forth to row 0, two rows behind it", x.turn(), 1);
        due.is("rung", x.bell(0, 3), 2);
        due.is("missed", x.bell(0, 4), 1);
        // one bell's missing does not hold up another's
        x = laid("b0,1;b0,2;n2;r1;t[ab][ab];");
        due.is("both", x.turn(), 3);
        due.is("the second one", x.turn(), 2);
        due.is("both", x.turn(), 3);
        // the first hammer that is ready strikes: the other one stays ready
        x = laid("b0,2;n4;r1;ta.aa;");
        due.is("first hammer", x.turn(), 1);
        due.is("nothing", x.turn(), 0);
        due.is("first hammer again", x.turn(), 1);
        due.is("second hammer", x.turn(), 1);
        due.is("first hammer again", x.turn(), 1);
    }

    private static void ringsAre(String text, String rings) {
        RungByADrum x = laid(text);
        for (int i = 0; i < rings.length(); i++) {
            due.is("turn " + i + " of " + text, x.turn(), rings.charAt(i) - '0');
        }
    }

    private static void pin() {
        due.part("promise 10");
        RungByADrum x = laid("b0,1;b0,1;b0,1;n3;ta.[abc];");
        due.is("in", x.pin(0, 2, true), 2);
        due.is("pins(0)", x.pins(0), 5);
        due.is("in already", x.pin(0, 2, true), NO);
        due.is("out", x.pin(2, 1, false), 2);
        due.is("pins(2)", x.pins(2), 5);
        due.is("out already", x.pin(2, 1, false), NO);
        due.is("last one out", x.pin(0, 0, false), 1);
        due.is("last one out", x.pin(0, 2, false), 0);
        due.is("count(3)", x.count(3), 2);
        due.is("those that changed can be undone", x.count(7), 4);
        for (boolean in : new boolean[] {false, true}) {
            due.is("row 3", x.pin(3, 0, in), BAD);
            due.is("row -1", x.pin(-1, 0, in), BAD);
            due.is("bell 3", x.pin(0, 3, in), BAD);
            due.is("bell -1", x.pin(0, -1, in), BAD);
            due.is("bell 32", x.pin(0, 32, in), BAD);
        }
        due.is("nothing changed", x.count(7), 4);
        due.is("what was put in rings", x.turn(), 0);
        x.pin(1, 1, true);
        due.is("what was put in rings", x.turn(), 2);
    }

    private static void shift() {
        due.part("promise 11");
        RungByADrum x = laid("b0,1;b0,1;b0,1;n5;tab.c;");
        due.is("shift(0)", x.shift(0), 1);
        rowsAre(x, 1, 2, 0, 4, 0);
        due.is("shift(1)", x.shift(1), 0);
        rowsAre(x, 0, 1, 2, 0, 4);
        due.is("shift(4)", x.shift(4), 1);
        rowsAre(x, 1, 2, 0, 4, 0);
        due.is("shift(2)", x.shift(2), 4);
        rowsAre(x, 4, 0, 1, 2, 0);
        due.is("shift(5)", x.shift(5), BAD);
        due.is("shift(-1)", x.shift(-1), BAD);
        due.is("each is undone by itself, that by 0 too", x.count(7), 4);
        x.turn();
        x.shift(1);
        due.is("the drum stays where it is", x.count(5), 0);
        due.is("the next row", x.turn(), 4 & ~4);
        rowsAre(x, 0, 4, 0, 1, 2);
    }

    private static void undo() {
        due.part("promise 12");
        RungByADrum x = laid("b0,1;b0,1;n4;r2;tabab;");
        due.is("undo", x.undo(), NO);
        x.turn();
        x.turn();
        x.turn();
        x.pin(2, 1, true);
        x.shift(1);
        x.turnBack();
        x.pin(9, 9, true);
        x.shift(9);
        x.pin(0, 1, true);
        due.is("wrong calls are none", x.count(7), 6);
        x.want(1, 1);
        x.hear(1);
        due.is("the turn back", x.undo(), 5);
        due.is("row", x.count(5), 2);
        due.is("rows turned", x.count(4), 3);
        due.is("the shift", x.undo(), 4);
        rowsAre(x, 1, 2, 3, 2);
        due.is("the pin", x.undo(), 3);
        rowsAre(x, 1, 2, 1, 2);
        due.is("missed", x.bell(0, 4), 1);
        due.is("a turn", x.undo(), 2);
        due.is("missed", x.bell(0, 4), 0);
        due.is("a turn", x.undo(), 1);
        due.is("rung", x.bell(1, 3), 0);
        due.is("a turn", x.undo(), 0);
        due.is("no row as yet", x.count(5), 4);
        due.is("undo", x.undo(), NO);
        due.is("what is wanted stays", x.want(1, 0), 1);
        due.is("what was heard stays", x.forget(), 1);
        due.is("hammers are ready again", x.turn(), 1);
        for (int i = 0; i < 12; i++) {
            x.turn();
        }
        for (int more = 7; more >= 0; more--) {
            due.is("undo of 13", x.undo(), more);
        }
        due.is("only the last 8", x.undo(), NO);
        due.is("rows turned", x.count(4), 5);
        due.is("the row that came", x.count(5), 0);
        x.turn();
        x.undo();
        x.turn();
        due.is("undo behind undo", x.undo(), 0);
        due.is("rows turned", x.count(4), 5);
    }

    private static void whole() {
        due.part("promise 13");
        RungByADrum x = laid("b0,1;b0,2;n4;r2;ta[ab][ab]b;");
        // a rings in row 0 and is missed in rows 1 and 2; b rings in rows 1 and 2 and is missed in row 3
        due.is("RING", x.whole(0), 3);
        due.is("MISSED", x.whole(1), 3);
        due.is("nothing is turned", x.count(4), 0);
        due.is("nothing rang", x.bell(0, 3), 0);
        due.is("whole(3)", x.whole(3), BAD);
        due.is("whole(-1)", x.whole(-1), BAD);
        // one bell, a pin in each of 4 rows, R 2: it rings in rows 0, 3, 6, ..; of 32 to 35 only in 33
        x = laid("b0,1;n4;r2;taaaa;");
        due.is("RING", x.whole(0), 2);
        due.is("MISSED", x.whole(1), 2);
        due.is("FOR EVER", x.whole(2), 3);
        x.turn();
        // from now on rows 1 to 4 come: only row 3 rings; then 33 to 36: rows 33 and 36 ring
        due.is("RING from now on", x.whole(0), 1);
        due.is("MISSED from now on", x.whole(1), 3);
        due.is("FOR EVER from now on", x.whole(2), 2);
        due.is("turn as ever", x.turn(), 0);
        x = laid("b0,1;n32;r0;");
        due.is("no pin rings", x.whole(0), 0);
        due.is("no pin is missed", x.whole(1), 0);
        due.is("no pin is missed for ever", x.whole(2), 0);
        x = laid("b0,1;n3;r6;ta;");
        // R 6: it rings in every third coming of its row
        due.is("RING", x.whole(0), 1);
        due.is("FOR EVER: the ninth coming", x.whole(2), 1);
        x.turn();
        x.turn();
        x.turn();
        due.is("the second coming", x.whole(1), 1);
        due.is("FOR EVER: the tenth coming", x.whole(2), 0);
        // where the drum is counts too: turned back, the row that comes next is another one
        x = laid("b0,1;n3;r1;taa;");
        x.turnBack();
        x.turnBack();
        due.is("rows 2, 0, 1 behind row 1", x.whole(0), 1);
    }

    private static void silenceAndAgain() {
        due.part("promises 14 and 15");
        due.is("round", laid("b0,1;n9;t..a...a;").silence(), 4);
        due.is("inside", laid("b0,1;n9;ta....a..;").silence(), 4);
        due.is("ends unlike", laid("b0,1;n9;t...a..a.;").silence(), 5);
        due.is("none", laid("b0,1;n3;taaa;").silence(), 0);
        due.is("no pin", laid("b0,1;n3;").silence(), 3);
        due.is("no pin of 32", laid("b0,1;n32;").silence(), 32);
        due.is("one pin of 32", laid("b0,1;n32;ta;").silence(), 31);
        due.is("one pin, the last row", laid("b0,1;n5;t....a;").silence(), 4);
        due.is("no pin", laid("b0,1;n7;").again(), 1);
        due.is("all alike", laid("b0,1;n7;t(a)7;").again(), 1);
        due.is("by 2", laid("b0,1;b0,1;n8;t(ab)4;").again(), 2);
        due.is("by 4", laid("b0,1;b0,1;n8;t(ab.b)2;").again(), 4);
        due.is("by 3", laid("b0,1;b0,1;n6;tab[ab]ab[ab];").again(), 3);
        due.is("not round", laid("b0,1;b0,1;n7;tabababa;").again(), 7);
        due.is("not at all", laid("b0,1;n6;ta;").again(), 6);
        due.is("of 2", laid("b0,1;n2;ta;").again(), 2);
        RungByADrum x = laid("b0,1;b0,1;n4;taab.;");
        x.pin(1, 0, false);
        x.pin(2, 1, false);
        x.pin(2, 0, true);
        due.is("pins as they are", x.again(), 2);
        due.is("pins as they are", x.silence(), 1);
    }

    private static void harsh() {
        due.part("promise 16");
        for (int apart = 0; apart <= 40; apart++) {
            int m = apart % 12;
            int ill = m == 1 || m == 2 || m == 6 || m == 10 || m == 11 ? 1 : 0;
            due.is(apart + " apart", laid("b0,1;b" + apart + ",1;n2;t[ab];").harsh(), ill);
            due.is(apart + " apart", laid("b" + apart + ",1;b0,1;n2;t[ab];").harsh(), ill);
        }
        due.is("1, 1, 2 apart", laid("b0,1;b1,1;b2,1;n2;t[abc];").harsh(), 3);
        due.is("in two rows", laid("b0,1;b1,1;b2,1;n4;t[abc]ab[bc];").harsh(), 4);
        due.is("one behind the other", laid("b0,1;b1,1;b2,1;n4;tabc;").harsh(), 0);
    }

    private static void canon() {
        due.part("promise 17");
        // a and b are 1 apart; by k = 1 a meets b, by 2 a meets b again, by 3 none does
        RungByADrum x = laid("b0,1;b1,1;n7;tabb;");
        due.is("k", x.canon(0), 3);
        due.is("how many", x.canon(1), 0);
        due.is("canon(2)", x.canon(2), BAD);
        due.is("canon(-1)", x.canon(-1), BAD);
        // of 2 rows: a in row 0 meets b in row 1, and b in row 1 meets a in row 0
        x = laid("b0,1;b1,1;n2;tab;");
        due.is("only k = 1", x.canon(0), 1);
        due.is("for all rows", x.canon(1), 2);
        // by 1 and 2: a with b once, by the two bells of the chord once each
        x = laid("b0,1;b1,1;b2,1;n3;ta[bc].;");
        due.is("the lowest of several", x.canon(0), 1);
        due.is("twos", x.canon(1), 2);
        // 4 rows abab: by 1 and 3 four twos, by 2 none
        x = laid("b0,1;b1,1;n4;tabab;");
        due.is("k", x.canon(0), 2);
        due.is("how many", x.canon(1), 0);
        // aabb: by 1 two twos, by 2 four, by 3 two
        x = laid("b0,1;b6,1;n4;taabb;");
        due.is("k", x.canon(0), 1);
        due.is("how many", x.canon(1), 2);
        // of an odd number of rows: by 1 a meets b behind it, b meets a
        x = laid("b0,1;b1,1;n3;taab;");
        due.is("k", x.canon(0), 1);
        due.is("how many", x.canon(1), 2);
        due.is("no pin", laid("b0,1;n9;").canon(0), 1);
    }

    private static void wantAndChanges() {
        due.part("promises 18 and 19");
        RungByADrum x = laid("b0,1;b0,1;b0,1;n4;tab[abc];");
        due.is("all out", x.changes(0), 5);
        due.is("by 0", x.changes(1), 0);
        due.is("want", x.want(0, 2), 0);
        due.is("want", x.want(1, 7), 0);
        due.is("want", x.want(3, 1), 0);
        due.is("shifted by 3", x.changes(0), 0);
        due.is("k", x.changes(1), 3);
        due.is("which one was", x.want(1, 0), 7);
        due.is("which one was", x.want(1, 5), 0);
        due.is("one too many", x.changes(0), 1);
        due.is("k", x.changes(1), 3);
        due.is("which one was", x.want(3, 6), 1);
        due.is("1 and 2 in row 3 are unlike", x.changes(0), 4);
        due.is("k", x.changes(1), 1);
        due.is("changes(2)", x.changes(2), BAD);
        due.is("changes(-1)", x.changes(-1), BAD);
        due.is("row 4", x.want(4, 0), BAD);
        due.is("row -1", x.want(-1, 0), BAD);
        due.is("set 8", x.want(0, 8), BAD);
        due.is("set -1", x.want(0, -1), BAD);
        due.is("set MIN", x.want(0, Integer.MIN_VALUE), BAD);
        due.is("nothing changed", x.want(0, 2), 2);
        due.is("the drum is as it was", x.pins(0), 1);
        x = laid("b0,1;n4;ta.a.;");
        x.want(1, 1);
        due.is("the lowest of several", x.changes(1), 1);
        due.is("how many", x.changes(0), 1);
        x.want(0, 1);
        x.want(1, 0);
        due.is("the lowest of several", x.changes(1), 0);
    }

    private static void lettersAre(String bells, int rows, String tune, int fewest) {
        due.is("letters of " + tune, laid(bells + "n" + rows + ";t" + tune + ";").letters(), fewest);
    }

    private static void letters() {
        due.part("promise 20");
        String two = "b0,1;b0,1;";
        String five = "b0,1;b0,1;b0,1;b0,1;b0,1;";
        lettersAre(two, 2, "ab", 2);
        lettersAre(two, 2, "..", 2);
        lettersAre(two, 4, "aaaa", 4);
        lettersAre(two, 5, "aaaaa", 4);
        lettersAre(two, 9, "(a)9", 4);
        lettersAre(two, 10, "(a)9a", 5);
        lettersAre(two, 11, "(a)9aa", 6);
        lettersAre(two, 12, "((a)6)2", 5);
        lettersAre(two, 18, "((a)9)2", 5);
        lettersAre(two, 19, "((a)9)2a", 6);
        lettersAre(two, 32, "((a)8)4", 7);
        lettersAre(two, 31, "a(aaaaa)6", 8);
        lettersAre(two, 4, "abab", 4);
        lettersAre(two, 6, "(ab)3", 5);
        lettersAre(two, 7, "(ab)3a", 6);
        lettersAre(two, 2, "[ab]a", 5);
        lettersAre(two, 2, "[ab][ab]", 7);
        lettersAre(two, 3, "[ab].[ab]", 9);
        lettersAre(two, 4, "[ab].[ab].", 8);
        lettersAre(five, 4, "[abcde]a[abcde]a", 11);
        lettersAre(five, 2, "[abcde].", 8);
        // rows behind the tune are written too
        lettersAre(two, 7, "a", 5);
        lettersAre(two, 3, "a", 3);
        // parts in parts in parts; a fourth one is not to be had
        lettersAre(two, 14, "((a)6b)2", 8);
        lettersAre(two, 32, "(((a)6b)2.)2..", 14);
        String eight = five + "b0,1;b0,1;b0,1;";
        lettersAre(eight, 15, "((([abcdefgh])2c)2d)2e", 22);
        lettersAre(eight, 30, "((([abcdefgh][abcdefgh]c)2d)2e)2", 32);
        RungByADrum x = laid("b0,1;n32;");
        due.is("32 rows without a pin", x.letters(), 7);
        x.pin(31, 0, true);
        due.is("31 rows and a pin", x.letters(), 9);
    }

    private static void ringersAre(int bells, String tune, int fewest) {
        String text = "";
        for (int i = 0; i < bells; i++) {
            text += "b0,1;";
        }
        due.is("ringers of " + tune, laid(text + "t" + tune + ";").ringers(), fewest);
    }

    private static void ringers() {
        due.part("promise 21");
        ringersAre(1, ".", 1);
        ringersAre(8, ".", 1);
        ringersAre(8, "abcdefgh", 1);
        ringersAre(2, "[ab]", 2);
        ringersAre(8, "[abcdefgh]", 8);
        ringersAre(4, "[ab][bc][cd]", 2);
        ringersAre(4, "[ab][cd][ad][bc]", 2);
        ringersAre(5, "[ab][bc][cd][de][ae]", 3);
        ringersAre(6, "[ab][bc][cd][de][ef][af]", 2);
        ringersAre(6, "[ab][bc][cd][de][ae][af][bf][cf][df][ef]", 4);
        ringersAre(7, "[ab][bc][cd][de][ef][fg][ag]", 3);
        // in their order, each to the first who can, these would need three and four
        ringersAre(6, "[ad][af][bc][cf][be][de]", 2);
        ringersAre(8, "[ad][af][ah][bc][cf][ch][be][de][eh][bg][dg][fg]", 2);
        ringersAre(8, "[abc][def][gh][ad]", 3);
        RungByADrum x = laid("b0,1;b0,1;n2;t[ab];");
        due.is("pins as they are", x.ringers(), 2);
        x.pin(0, 1, false);
        due.is("pins as they are", x.ringers(), 1);
    }

    private static void hearForgetStood() {
        due.part("promises 22, 23 and 24");
        RungByADrum x = laid("b0,1;b0,1;n5;taab.a;");
        due.is("nothing heard: all", x.stood(), 31);
        due.is("hear", x.hear(1), 1);
        due.is("stood", x.stood(), 1 | 2 | 16);
        due.is("hear", x.hear(1), 2);
        due.is("stood, round", x.stood(), 1 | 16);
        due.is("hear", x.hear(1), 3);
        due.is("stood, round", x.stood(), 16);
        due.is("hear", x.hear(2), 4);
        due.is("stood, round", x.stood(), 16);
        due.is("hear", x.hear(3), 5);
        due.is("stood", x.stood(), 0);
        due.is("hear a wrong set", x.hear(4), BAD);
        due.is("hear a wrong set", x.hear(-1), BAD);
        due.is("count(6)", x.count(6), 5);
        due.is("forget", x.forget(), 5);
        due.is("forget", x.forget(), 0);
        due.is("stood", x.stood(), 31);
        due.is("hear nothing", x.hear(0), 1);
        due.is("stood", x.stood(), 8);
        for (int i = 2; i <= 8; i++) {
            due.is("hear", x.hear(0), i);
        }
        due.is("hear a ninth", x.hear(0), FULL);
        due.is("hear a wrong ninth", x.hear(4), BAD);
        due.is("count(6)", x.count(6), 8);
        due.is("what was heard is not undone", x.undo(), NO);
        x = laid("b0,1;n2;ta;");
        for (int i = 0; i < 8; i++) {
            x.hear(1 - i % 2);
        }
        due.is("eight of two rows", x.stood(), 1);
        x.shift(1);
        due.is("eight of two rows, shifted", x.stood(), 2);
        x = laid("b0,1;n32;");
        due.is("row 31 as the sign", x.stood(), -1);
        x.pin(31, 0, true);
        x.hear(1);
        due.is("row 31 alone", x.stood(), Integer.MIN_VALUE);
    }

    private static void octavesAndMelody() {
        due.part("promises 25 and 26");
        due.is("one bell", laid("b0,1;").octaves(), 0);
        due.is("unlike", laid("b0,1;b11,1;b13,1;b26,1;").octaves(), 0);
        due.is("the same tone", laid("b5,1;b5,1;").octaves(), 1);
        due.is("three of one", laid("b1,1;b13,1;b37,1;").octaves(), 1);
        due.is("two twos", laid("b1,1;b13,1;b40,1;b4,1;b3,1;").octaves(), 2);
        due.is("four", laid("b0,1;b12,1;b11,1;b35,1;b36,1;b23,1;b7,1;b19,1;").octaves(), 3);
        melodyIs("b0,1;b5,1;b9,1;n9;ta.b[ac]b.ca.;", 3, 2, 9);
        melodyIs("b9,1;b5,1;n4;tab;", 0, 1, 4);
        melodyIs("b9,1;b5,1;n4;tba;", 1, 0, 4);
        melodyIs("b9,1;b5,1;n4;t[ab]a;", 0, 0, 0);
        melodyIs("b9,1;n4;", 0, 0, 0);
        melodyIs("b9,1;n4;ta;", 0, 0, 0);
        melodyIs("b40,1;b0,1;n6;ta...b;", 0, 1, 40);
        melodyIs("b4,1;b4,1;n6;tab.ab;", 0, 0, 0);
        RungByADrum x = laid("b9,1;");
        due.is("melody(3)", x.melody(3), BAD);
        due.is("melody(-1)", x.melody(-1), BAD);
    }

    private static void melodyIs(String text, int rises, int falls, int most) {
        RungByADrum x = laid(text);
        due.is("rises of " + text, x.melody(0), rises);
        due.is("falls of " + text, x.melody(1), falls);
        due.is("the most of " + text, x.melody(2), most);
    }

    private static void winter() {
        due.part("promise 27");
        // z 0: x is 1, 6152, 12303: draws 0, (37847104 mod 65521) by 8 = 5245, (151363809 mod 65521) by 8 = 1287
        RungByADrum x = laid("b0,1;b0,1;n10;t[ab](a)9;");
        due.is("row 0 loses one", x.winter(0, 1, 0), 10);
        due.is("row 0 has one left", x.winter(0, 1, 1), 0);
        due.is("row 5 loses its one", x.winter(0, 2, 0), 9);
        due.is("row 5 has none", x.winter(0, 2, 1), 1);
        due.is("row " + 12303L * 12303 % 65521 / 8 % 10 + " loses its one", x.winter(0, 3, 0), 8);
        due.is("two rows have none", x.winter(0, 3, 1), 2);
        due.is("nothing falls out", x.count(3), 11);
        due.is("nothing to undo", x.count(7), 0);
        // z 9999, k 0: x = 79182082, x times x far above 2 to the 31
        long draw = 79182082L * 79182082L % 65521 / 8;
        x = laid("b0,1;n32;");
        x.pin((int) (draw % 32), 0, true);
        due.is("the only pin", x.winter(9999, 1, 0), 0);
        due.is("all rows", x.winter(9999, 1, 1), 32);
        // z 1, k 1: x = 14071
        x = laid("b0,1;n32;");
        x.pin((int) (14071L * 14071L % 65521 / 8 % 32), 0, true);
        due.is("not by the first draw", x.winter(1, 1, 0), 1);
        due.is("by the second draw", x.winter(1, 2, 0), 0);
        due.is("60 draws of a bare drum", laid("b0,1;n32;").winter(9999, 60, 1), 32);
        due.is("z -1", x.winter(-1, 1, 0), BAD);
        due.is("z 10000", x.winter(10000, 1, 0), BAD);
        due.is("n 0", x.winter(0, 0, 0), BAD);
        due.is("n 61", x.winter(0, 61, 0), BAD);
        due.is("what 2", x.winter(0, 1, 2), BAD);
        due.is("what -1", x.winter(0, 1, -1), BAD);
    }

    private static void keepAndBack() {
        due.part("promises 28 and 29");
        RungByADrum x = laid("b0,1;b0,2;n4;r2;taabb;");
        due.is("back", x.back(), NO);
        x.turn();
        due.is("keep", x.keep(), 1);
        due.is("keeping is not undone", x.count(7), 1);
        x.turn();
        x.pin(3, 0, true);
        due.is("keep", x.keep(), 2);
        due.is("keep a third", x.keep(), FULL);
        x.shift(1);
        x.turn();
        x.want(0, 3);
        x.hear(2);
        due.is("undo goes on", x.count(7), 5);
        due.is("back", x.back(), 1);
        rowsAre(x, 1, 1, 2, 3);
        due.is("where the drum is", x.count(5), 1);
        due.is("rows turned", x.count(4), 2);
        due.is("a missed", x.bell(0, 4), 1);
        due.is("nothing can be undone", x.count(7), 0);
        due.is("undo", x.undo(), NO);
        due.is("b rings", x.turn(), 2);
        due.is("keep", x.keep(), 2);
        due.is("back", x.back(), 1);
        due.is("rows turned", x.count(4), 3);
        due.is("back", x.back(), 0);
        rowsAre(x, 1, 1, 2, 2);
        due.is("where the drum is", x.count(5), 0);
        due.is("a missed", x.bell(0, 4), 0);
        due.is("a rung", x.bell(0, 3), 1);
        due.is("what hammers did", x.turn(), 0);
        due.is("back", x.back(), NO);
        due.is("what is wanted stays", x.want(0, 0), 3);
        due.is("what was heard stays", x.forget(), 1);
        due.is("undo behind back", x.undo(), 0);
        due.is("where the drum is", x.count(5), 0);
        x = laid("b0,1;n4;ta;");
        x.keep();
        x.turn();
        x.back();
        due.is("no row as yet", x.count(5), 4);
    }

    private static void count() {
        due.part("promise 30");
        RungByADrum x = laid("b0,1;b0,2;n5;r4;taa[ab]b;");
        x.write('x');
        x.turn();
        x.turn();
        x.turnBack();
        x.pin(4, 1, true);
        x.hear(0);
        x.hear(3);
        x.keep();
        x.want(0, 1);
        int[] counts = {2, 5, 4, 6, 3, 0, 2, 4, 1, 26};
        for (int what = 0; what < counts.length; what++) {
            due.is("count(" + what + ")", x.count(what), counts[what]);
        }
        due.is("count(10)", x.count(10), BAD);
        due.is("count(-1)", x.count(-1), BAD);
        due.is("count(MAX)", x.count(Integer.MAX_VALUE), BAD);
        for (int i = 0; i < 9; i++) {
            x.shift(0);
        }
        due.is("8 can be undone", x.count(7), 8);
    }

    private static void laidAnew() {
        due.part("promise 5, nothing of an earlier text is left");
        RungByADrum x = new RungByADrum();
        // twice each, lest what stays of one text is hidden by another
        for (int i = 0; i < 4; i++) {
            tell(x, "b0,1;b1,1;b2,2;n3;r6;t[abc][ab][bc];");
            due.is("lay", x.lay(), 3);
            due.is("harsh", x.harsh(), 5);
            due.is("canon", x.canon(1), 4 + 4 + 3);
            if (i % 2 == 1) {
                x.lay();
            }
            tell(x, "b0,2;b4,1;b7,1;t[abc];");
            due.is("lay", x.lay(), 1);
            due.is("harsh", x.harsh(), 0);
            due.is("canon", x.canon(1), 0);
            due.is("ROWS", x.count(1), 16);
            due.is("R", x.count(2), 1);
            due.is("silence", x.silence(), 15);
            due.is("pins(1)", x.pins(1), 0);
        }
    }

    private static void fullTower() {
        due.part("the most bells and rows");
        RungByADrum x = laid("b0,2;b1,2;b2,2;b3,2;b4,2;b5,2;b6,2;b40,2;n32;r6;t(([abcdefgh])8)4;");
        due.is("pins of a bell", x.bell(7, 2), 32);
        due.is("pins", x.count(3), 256);
        due.is("turn", x.turn(), 255);
        due.is("turnBack", x.turnBack(), 255);
        due.is("turnBack", x.turnBack(), 0);
        due.is("undo", x.undo(), 2);
        due.is("undo", x.undo(), 1);
        due.is("undo", x.undo(), 0);
        // two hammers of 6 rows' need ring in 2 rows of 7: of the first 32 in 10, of rows 256 to 287 in 9
        due.is("RING", x.whole(0), 80);
        due.is("MISSED", x.whole(1), 176);
        due.is("FOR EVER", x.whole(2), 256 - 8 * 9);
        due.is("silence", x.silence(), 0);
        due.is("again", x.again(), 1);
        // 0 to 6: six twos 1 apart, five 2 apart, one 6 apart; 40 with 0 to 6: apart 40 - t modulo 12 is 4 down to 10
        int ill = 6 + 5 + 1 + illWith40();
        due.is("harsh", x.harsh(), 32 * ill);
        due.is("canon", x.canon(0), 1);
        due.is("canon", x.canon(1), 32 * 2 * ill);
        due.is("changes", x.changes(0), 256);
        due.is("letters", x.letters(), 16);
        due.is("ringers", x.ringers(), 8);
        due.is("stood", x.stood(), -1);
        due.is("hear", x.hear(255), 1);
        due.is("stood", x.stood(), -1);
        due.is("melody", x.melody(2), 0);
        due.is("octaves", x.octaves(), 1);
        due.is("shift", x.shift(31), 255);
        due.is("pin", x.pin(31, 7, false), 7);
        due.is("shift", x.shift(31), 255);
        due.is("pins(30)", x.pins(30), 127);
        due.is("7 draws, each of a row with pins", x.winter(0, 7, 0), 248);
        due.is("keep", x.keep(), 1);
        due.is("back", x.back(), 0);
        due.is("want", x.want(31, 255), 0);
        due.is("changes", x.changes(0), 255 - 8);
    }

    private static int illWith40() {
        int ill = 0;
        for (int tone = 0; tone <= 6; tone++) {
            int apart = (40 - tone) % 12;
            ill += apart == 1 || apart == 2 || apart == 6 || apart == 10 || apart == 11 ? 1 : 0;
        }
        return ill;
    }
}
