import java.util.Arrays;

/** The edges of promises 22 to 30, of what was heard, winters, drums kept, counts: each method is a sentence. */
public final class HeardEdgeTest {
    private static final int BAD = RungByADrum.BAD, NO = RungByADrum.NO, FULL = RungByADrum.FULL;
    private static final Due due = new Due();
    private static final String EIGHT = Tell.bells(8);
    private static final String ALL = "[abcdefgh]";

    public static void main(String[] args) {
        hearSetsOfBellsThereAre();
        heard8AtMost();
        badAheadOfFull();
        forgetFromNoneTo8();
        stoodOfNothingHeard();
        stoodRow31AsTheSign();
        stoodRound();
        stoodMoreHeardThanRows();
        stoodPinsAsHeard();
        octavesFromNoneTo4();
        octavesModulo12();
        whatOfAMelody();
        melody0Without();
        melodyNotRound();
        melodyOverRowsWithoutPins();
        melodyByTheHighest();
        winterZFrom0To9999();
        winterNFrom1To60();
        whatOfAWinter();
        winterIfThereIsAny();
        winterDraws();
        winterOnlyAsks();
        kept2AtMost();
        backOfNone();
        keptAllOfIt();
        backNothingIsUndone();
        backStaysWhatIsNotKept();
        countFrom0To9();
        countAtItsEnds();
        due.end();
    }

    private static RungByADrum laid(String text) {
        return Tell.laid(due, text);
    }

    // ---- promises 22 and 23

    private static void hearSetsOfBellsThereAre() {
        due.part("22 HEARD (a set may be 0); BAD (BELLS: such as there are)");
        for (int bells = 1; bells <= 8; bells++) {
            RungByADrum x = laid(Tell.bells(bells));
            int all = (1 << bells) - 1;
            due.is("none", x.hear(0), 1);
            due.is("all", x.hear(all), 2);
            for (int set : Tell.beyond(0, all)) {
                due.is("hear(" + set + ")", x.hear(set), BAD);
            }
            due.is("HEARD", x.count(6), 2);
        }
    }

    private static void heard8AtMost() {
        due.part("22 HEARD (8 at most); FULL");
        RungByADrum x = laid("b0,1;b0,1;n9;tabaabab.a;");
        int[] sets = {1, 2, 1, 1, 2, 1, 2, 0};
        for (int i = 0; i < 8; i++) {
            due.is("hear", x.hear(sets[i]), i + 1);
        }
        due.is("stood", x.stood(), 1);
        for (int set = 0; set <= 3; set++) {
            due.is("a ninth", x.hear(set), FULL);
            due.is("HEARD", x.count(6), 8);
            due.is("stood as ever", x.stood(), 1);
        }
        due.is("forget", x.forget(), 8);
        due.is("there is room again", x.hear(2), 1);
    }

    private static void badAheadOfFull() {
        due.part("22 BAD; FULL: of several the first");
        RungByADrum x = laid("b0,1;");
        for (int i = 0; i < 8; i++) {
            x.hear(1);
        }
        due.is("a set that is none", x.hear(2), BAD);
        due.is("a set that is none", x.hear(-1), BAD);
        due.is("a set that is one", x.hear(1), FULL);
    }

    private static void forgetFromNoneTo8() {
        due.part("23 Nothing is HEARD: how many were");
        for (int many = 0; many <= 8; many++) {
            RungByADrum x = laid("b0,1;n4;ta;");
            for (int i = 0; i < many; i++) {
                x.hear(0);
            }
            due.is("forget", x.forget(), many);
            due.is("HEARD", x.count(6), 0);
            due.is("forget again", x.forget(), 0);
            due.is("stood", x.stood(), 15);
            due.is("what comes then is the first", x.hear(1), 1);
            due.is("stood", x.stood(), 1);
        }
    }

    // ---- promise 24

    private static void stoodOfNothingHeard() {
        due.part("24 STOOD, nothing HEARD: all ROWS");
        for (int rows = 2; rows <= 31; rows++) {
            due.is("of " + rows, laid("b0,1;n" + rows + ";").stood(), (1 << rows) - 1);
        }
        due.is("of 32", laid("b0,1;n32;").stood(), -1);
    }

    private static void stoodRow31AsTheSign() {
        due.part("24 as bits (ROW 31 as the sign)");
        for (int row = 0; row < 32; row++) {
            RungByADrum x = laid("b0,1;n32;");
            x.pin(row, 0, true);
            x.hear(1);
            due.is("row " + row, x.stood(), 1 << row);
            x.forget();
            x.hear(0);
            due.is("all but row " + row, x.stood(), ~(1 << row));
        }
        RungByADrum x = laid("b0,1;n31;t" + ".".repeat(30) + "a;");
        x.hear(1);
        due.is("row 30 is the last of 31", x.stood(), 1 << 30);
    }

    private static void stoodRound() {
        due.part("24 the next one as HEARD second, and so on, round");
        for (int rows : new int[] {8, 9, 31, 32}) {
            for (int from = 0; from < rows; from += rows > 9 ? 6 : 1) {
                RungByADrum x = laid(EIGHT + "n" + rows + ";tabcdefgh;");
                x.shift(from);
                for (int i = 0; i < 8; i++) {
                    x.hear(1 << i);
                    due.is("from row " + from + " of " + rows, x.stood(), 1 << from);
                }
            }
        }
        RungByADrum x = laid("b0,1;n3;ta.a;");
        x.hear(1);
        due.is("rows 0, 2", x.stood(), 5);
        x.hear(1);
        due.is("row 2, round", x.stood(), 4);
        x.hear(0);
        due.is("row 2, round", x.stood(), 4);
        x.hear(0);
        due.is("none", x.stood(), 0);
    }

    private static void stoodMoreHeardThanRows() {
        due.part("24 round: more HEARD than there are ROWS");
        RungByADrum x = laid("b0,1;n2;ta;");
        for (int i = 0; i < 8; i++) {
            x.hear(1 - i % 2);
            due.is("heard " + (i + 1), x.stood(), 1);
        }
        x.shift(1);
        due.is("shifted", x.stood(), 2);
        x = laid("b0,1;n3;ta;");
        for (int i = 0; i < 8; i++) {
            x.hear(i % 3 == 0 ? 1 : 0);
        }
        due.is("8 of 3 rows", x.stood(), 1);
        x.forget();
        for (int i = 0; i < 4; i++) {
            x.hear(i % 4 == 0 ? 1 : 0);
        }
        due.is("the fourth is unlike the first", x.stood(), 0);
        x = laid("b0,1;n2;taa;");
        for (int i = 0; i < 8; i++) {
            x.hear(1);
        }
        due.is("all alike", x.stood(), 3);
    }

    private static void stoodPinsAsHeard() {
        due.part("24 has PINS as HEARD: just these");
        RungByADrum x = laid("b0,1;b0,1;n4;t[ab]ab;");
        for (int set = 0; set <= 3; set++) {
            x.forget();
            x.hear(set);
            due.is("hear(" + set + ")", x.stood(), new int[] {8, 2, 4, 1}[set]);
        }
        // it is pins, not what rings
        x = laid("b0,1;n2;r6;taa;");
        x.turn();
        due.is("missed", x.turn(), 0);
        x.hear(1);
        due.is("by pins", x.stood(), 3);
    }

    // ---- promises 25 and 26

    private static void octavesFromNoneTo4() {
        due.part("25 how many numbers that are the TONES of two or more BELLS");
        due.is("one bell", laid("b0,1;").octaves(), 0);
        due.is("eight unlike", laid("b0,1;b1,1;b2,1;b3,1;b4,1;b5,1;b6,1;b7,1;").octaves(), 0);
        due.is("eight alike", laid(EIGHT).octaves(), 1);
        due.is("two of one", laid("b0,1;b0,1;").octaves(), 1);
        due.is("three of one", laid("b0,1;b12,1;b24,1;").octaves(), 1);
        due.is("four twos", laid("b0,1;b12,1;b1,1;b13,1;b10,1;b22,1;b11,1;b35,1;").octaves(), 4);
        due.is("without a pin too", laid("b3,1;b15,1;n2;").octaves(), 1);
    }

    private static void octavesModulo12() {
        due.part("25 numbers 0 to 11, modulo 12");
        for (int tone = 0; tone <= 40; tone++) {
            for (int other = 0; other <= 40; other++) {
                int same = (tone - other) % 12 == 0 ? 1 : 0;
                due.is(tone + ", " + other, laid("b" + tone + ",1;b" + other + ",2;").octaves(), same);
            }
        }
    }

    private static void melodyIs(String text, int rises, int falls, int most) {
        RungByADrum x = laid(text);
        due.is("rises of " + text, x.melody(0), rises);
        due.is("falls of " + text, x.melody(1), falls);
        due.is("the most of " + text, x.melody(2), most);
    }

    private static void whatOfAMelody() {
        due.part("26 what = 0, 1, 2; BAD");
        melodyIs("b0,1;b7,1;n4;taba;", 1, 1, 7);
        RungByADrum x = laid("b0,1;b7,1;n4;taba;");
        for (int what : Tell.beyond(0, 2)) {
            due.is("melody(" + what + ")", x.melody(what), BAD);
        }
    }

    private static void melody0Without() {
        due.part("26 (0 without)");
        melodyIs("b5,1;n2;", 0, 0, 0);
        melodyIs("b5,1;n2;ta;", 0, 0, 0);
        melodyIs("b5,1;n2;t.a;", 0, 0, 0);
        melodyIs("b40,1;n2;taa;", 0, 0, 0);
        melodyIs("b0,1;b40,1;n2;t[ab];", 0, 0, 0);
        melodyIs("b0,1;b40,1;n32;t" + ".".repeat(31) + "b;", 0, 0, 0);
    }

    private static void melodyNotRound() {
        due.part("26 from ROW 0 to the last one: not round");
        melodyIs("b0,1;b40,1;n2;tab;", 1, 0, 40);
        melodyIs("b0,1;b40,1;n2;tba;", 0, 1, 40);
        melodyIs("b0,1;b1,1;b40,1;n3;tabc;", 2, 0, 39);
        melodyIs("b0,1;b1,1;b2,1;n3;tabc;", 2, 0, 1);
        melodyIs("b0,1;b1,1;n32;t((ab)8)2;", 16, 15, 1);
        melodyIs("b0,1;b1,1;n32;t((ba)8)2;", 15, 16, 1);
    }

    private static void melodyOverRowsWithoutPins() {
        due.part("26 of each ROW that has any: the one ahead of these");
        melodyIs("b0,1;b40,1;n32;ta" + ".".repeat(30) + "b;", 1, 0, 40);
        melodyIs("b0,1;b40,1;n32;tb" + ".".repeat(30) + "a;", 0, 1, 40);
        melodyIs("b0,1;b5,1;n9;t.a..b.a..;", 1, 1, 5);
        // a tone of 0 is a tone: it is not as if there were none
        melodyIs("b0,1;b5,1;b9,1;n6;tca.b;", 1, 1, 9);
    }

    private static void melodyByTheHighest() {
        due.part("26 the highest TONE of PINS");
        melodyIs("b9,1;b5,1;b40,1;n4;t[ab][ac][bc]b;", 1, 1, 35);
        melodyIs("b40,1;b0,1;n2;t[ab]a;", 0, 0, 0);
        melodyIs("b40,1;b0,1;n2;t[ab]b;", 0, 1, 40);
        melodyIs("b1,1;b2,1;b3,1;b4,1;b5,1;b6,1;b7,1;b8,1;n2;ta" + ALL + ";", 1, 0, 7);
        melodyIs("b7,1;b7,1;n2;tab;", 0, 0, 0);
    }

    // ---- promise 27

    private static void winterZFrom0To9999() {
        due.part("27 z (0 to 9999); BAD");
        RungByADrum x = laid("b0,1;n32;t((a)8)4;");
        due.is("z = 0", x.winter(0, 1, 0), 31);
        due.is("z = 9999", x.winter(9999, 1, 0), 31);
        for (int z : Tell.beyond(0, 9999)) {
            due.is("z = " + z, x.winter(z, 1, 0), BAD);
            due.is("z = " + z, x.winter(z, 60, 1), BAD);
        }
    }

    private static void winterNFrom1To60() {
        due.part("27 n (1 to 60); BAD");
        RungByADrum x = laid(EIGHT + "n32;t((" + ALL + ")8)4;");
        for (int n : Tell.beyond(1, 60)) {
            due.is("n = " + n, x.winter(0, n, 0), BAD);
            due.is("n = " + n, x.winter(9999, n, 1), BAD);
        }
        due.is("n = 1", x.winter(0, 1, 0), 255);
        due.is("n = 59", x.winter(9999, 59, 0), left(9999, 59, 32, 8));
        due.is("n = 60", x.winter(9999, 60, 0), left(9999, 60, 32, 8));
        due.holds("the sixtieth draw is told apart", left(9999, 60, 32, 8) < left(9999, 59, 32, 8));
    }

    private static void whatOfAWinter() {
        due.part("27 what = 0, 1; BAD");
        RungByADrum x = laid("b0,1;n2;taa;");
        due.is("PINS", x.winter(0, 1, 0), 1);
        due.is("ROWS", x.winter(0, 1, 1), 1);
        for (int what : Tell.beyond(0, 1)) {
            due.is("what = " + what, x.winter(0, 1, what), BAD);
        }
    }

    private static void winterIfThereIsAny() {
        due.part("27 falls out, if there is any");
        for (int n = 1; n <= 60; n++) {
            due.is("PINS of none", laid("b0,1;n2;").winter(n, n, 0), 0);
            due.is("ROWS of none", laid("b0,1;n32;").winter(n, n, 1), 32);
        }
        // the first draw of z = 0 is row 0: it has none, nothing else falls out
        RungByADrum x = laid("b0,1;n5;t.aaaa;");
        due.is("PINS", x.winter(0, 1, 0), 4);
        due.is("ROWS", x.winter(0, 1, 1), 1);
        x = laid(EIGHT + "n5;t" + ALL + ";");
        due.is("one of eight", x.winter(0, 1, 0), 7);
        due.is("row 0 has some left", x.winter(0, 1, 1), 4);
        x = laid(EIGHT + "n5;th;");
        due.is("the only one", x.winter(0, 1, 0), 0);
        due.is("row 0 has none left", x.winter(0, 1, 1), 5);
    }

    private static void winterDraws() {
        due.part("27 DRAW modulo N, ((x times x) modulo 65521) by 8, cut, x 7919 z, 6151 k and 1 together");
        for (int rows : new int[] {2, 3, 7, 16, 31, 32}) {
            for (int z : new int[] {0, 1, 2, 65, 271, 5000, 9998, 9999}) {
                for (int n : new int[] {1, 2, 59, 60}) {
                    for (int bells : new int[] {1, 3, 8}) {
                        String all = bells == 1 ? "a" : "[" + "abcdefgh".substring(0, bells) + "]";
                        RungByADrum x = laid(Tell.bells(bells) + "n" + rows + ";t" + tuneOf(all, rows) + ";");
                        due.is("PINS at first", x.count(3), rows * bells);
                        due.is("PINS, " + z + ", " + n, x.winter(z, n, 0), left(z, n, rows, bells));
                        due.is("ROWS, " + z + ", " + n, x.winter(z, n, 1), bare(z, n, rows, bells));
                    }
                }
            }
        }
        // z 9999, k 0: x is 79182082, and x times x is far beyond an int
        long draw = 79182082L * 79182082L % 65521 / 8;
        for (int row = 0; row < 32; row++) {
            RungByADrum x = laid("b0,1;n32;");
            x.pin(row, 0, true);
            due.is("row " + row, x.winter(9999, 1, 0), draw % 32 == row ? 0 : 1);
        }
    }

    /** A tune of so many rows alike, in few letters. */
    private static String tuneOf(String row, int rows) {
        return switch (rows) {
            case 16 -> "((" + row + ")8)2";
            case 32 -> "((" + row + ")8)4";
            case 31 -> "((" + row + ")5)6" + row;
            default -> "(" + row + ")" + rows;
        };
    }

    private static int[] fallen(int z, int n, int rows, int bells) {
        int[] pins = new int[rows];
        Arrays.fill(pins, bells);
        for (int k = 0; k < n; k++) {
            long x = 7919L * z + 6151L * k + 1;
            int row = (int) (x * x % 65521 / 8 % rows);
            pins[row] = Math.max(0, pins[row] - 1);
        }
        return pins;
    }

    private static int left(int z, int n, int rows, int bells) {
        return Arrays.stream(fallen(z, n, rows, bells)).sum();
    }

    private static int bare(int z, int n, int rows, int bells) {
        return (int) Arrays.stream(fallen(z, n, rows, bells)).filter(pins -> pins == 0).count();
    }

    private static void winterOnlyAsks() {
        due.part("27 nothing falls out by asking");
        RungByADrum x = laid("b0,1;n3;taaa;");
        for (int i = 0; i < 3; i++) {
            due.is("PINS", x.winter(0, 60, 0), 0);
            due.is("ROWS", x.winter(0, 60, 1), 3);
        }
        Tell.rowsAre(due, x, 1, 1, 1);
        due.is("that can be undone", x.count(7), 0);
    }

    // ---- promises 28 and 29

    private static void kept2AtMost() {
        due.part("28 2 at most; FULL");
        RungByADrum x = laid("b0,1;n4;ta;");
        due.is("keep", x.keep(), 1);
        x.turn();
        due.is("keep", x.keep(), 2);
        x.turn();
        for (int i = 0; i < 3; i++) {
            due.is("a third", x.keep(), FULL);
            due.is("KEPT", x.count(8), 2);
        }
        due.is("as kept last", x.back(), 1);
        due.is("turned", x.count(4), 1);
        due.is("there is room again", x.keep(), 2);
        due.is("full again", x.keep(), FULL);
        due.is("back", x.back(), 1);
        due.is("turned", x.count(4), 1);
        due.is("back", x.back(), 0);
        due.is("turned", x.count(4), 0);
        due.is("none as yet", x.count(5), 4);
    }

    private static void backOfNone() {
        due.part("29 NO");
        RungByADrum x = new RungByADrum();
        due.is("back", x.back(), NO);
        x.turn();
        due.is("back", x.back(), NO);
        due.is("what can be undone stays", x.count(7), 1);
        due.is("turned", x.count(4), 1);
        x.keep();
        due.is("back", x.back(), 0);
        due.is("back", x.back(), NO);
        for (int i = 0; i < 20; i++) {
            due.is("keep", x.keep(), 1);
            due.is("back", x.back(), 0);
        }
        due.is("back", x.back(), NO);
    }

    private static void keptAllOfIt() {
        due.part("28, 29 KEPT are PINS, where THE DRUM is, what HAMMERS did, how often, how many");
        RungByADrum x = laid("b0,1;b0,2;n4;r6;t[ab][ab].b;");
        x.turn();
        x.turn();
        x.keep();
        int[] rung = {x.bell(0, 3), x.bell(1, 3)};
        int[] missed = {x.bell(0, 4), x.bell(1, 4)};
        for (int i = 0; i < 12; i++) {
            x.turn();
        }
        x.shift(3);
        x.pin(0, 0, true);
        x.pin(0, 1, false);
        x.turnBack();
        due.is("back", x.back(), 0);
        Tell.rowsAre(due, x, 3, 3, 0, 2);
        due.is("where the drum is", x.count(5), 1);
        due.is("turned", x.count(4), 2);
        for (int b = 0; b < 2; b++) {
            due.is("RUNG", x.bell(b, 3), rung[b]);
            due.is("MISSED", x.bell(b, 4), missed[b]);
        }
        // R 6, two rows turned: a rang in the first, b's hammers in the first and the second; the eighth one is row 3
        int[] rings = {0, 0, 0, 0, 0, 2, 3, 0};
        for (int i = 0; i < rings.length; i++) {
            due.is("row " + (2 + i) % 4, x.turn(), rings[i]);
        }
    }

    private static void backNothingIsUndone() {
        due.part("29 nothing is UNDONE then");
        RungByADrum x = laid("b0,1;n4;ta;");
        x.turn();
        x.turn();
        x.keep();
        due.is("keeping undoes nothing", x.count(7), 2);
        x.turn();
        due.is("back", x.back(), 0);
        due.is("that can be undone", x.count(7), 0);
        due.is("undo", x.undo(), NO);
        due.is("turned", x.count(4), 2);
        x.turn();
        due.is("undo", x.undo(), 0);
        due.is("turned", x.count(4), 2);
        // kept stays through what is undone
        x.keep();
        x.turn();
        x.undo();
        due.is("KEPT", x.count(8), 1);
    }

    private static void backStaysWhatIsNotKept() {
        due.part("29 as KEPT: nothing else");
        RungByADrum x = laid("b0,1;n4;ta;");
        x.keep();
        x.want(3, 1);
        x.hear(1);
        x.write('x');
        due.is("back", x.back(), 0);
        due.is("WANTED stays", x.want(3, 0), 1);
        due.is("HEARD stays", x.count(6), 1);
        due.is("THE TEXT stays", x.count(9), 12);
        x.keep();
        due.is("no lay of what is not so", x.lay(), NO);
        due.is("KEPT stays", x.count(8), 1);
    }

    // ---- promise 30

    private static void countFrom0To9() {
        due.part("30 what = 0 to 9; BAD");
        RungByADrum x = new RungByADrum();
        int[] counts = {3, 14, 1, 11, 0, 14, 0, 0, 0, 0};
        for (int what = 0; what <= 9; what++) {
            due.is("count(" + what + ")", x.count(what), counts[what]);
        }
        for (int what : Tell.beyond(0, 9)) {
            due.is("count(" + what + ")", x.count(what), BAD);
        }
    }

    private static void countAtItsEnds() {
        due.part("30 How many, at the ends");
        String least = "b0,1;n2;r0;";
        RungByADrum x = laid(least);
        int[] counts = {1, 2, 0, 0, 0, 2, 0, 0, 0, least.length()};
        for (int what = 0; what <= 9; what++) {
            due.is("least: count(" + what + ")", x.count(what), counts[what]);
        }
        String most = EIGHT + "n32;r6;t((" + ALL + ")8)4;";
        x = laid(most);
        for (int i = 0; i < 200 - most.length(); i++) {
            x.write('~');
        }
        for (int i = 0; i < 32; i++) {
            x.turn();
        }
        for (int i = 0; i < 9; i++) {
            x.hear(255);
            x.keep();
        }
        int[] full = {8, 32, 6, 256, 32, 31, 8, 8, 2, 200};
        for (int what = 0; what <= 9; what++) {
            due.is("most: count(" + what + ")", x.count(what), full[what]);
        }
        x.turn();
        due.is("round", x.count(5), 0);
        x.turnBack();
        due.is("round back", x.count(5), 31);
        due.is("turned either way", x.count(4), 34);
    }
}
