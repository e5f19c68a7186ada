import java.util.ArrayList;
import java.util.List;
import java.util.function.Supplier;
import java.util.function.ToIntFunction;

/**
 * "Of several the first; nothing changes then": of two objects made alike one is refused a call, the other one is not
 * asked; from then on they answer alike, whatever is asked. The same of calls that only ask.
 */
public final class RefusedTest {
    private static final int BAD = RungByADrum.BAD, NO = RungByADrum.NO, FULL = RungByADrum.FULL;
    // letters of a full text, and what is done behind them
    private static final int MOST_CALLS_TO_MAKE_ONE = 240;
    private static final Due due = new Due();

    private record Call(String name, ToIntFunction<RungByADrum> made) { }

    public static void main(String[] args) {
        numbersThatAreNone("new", RungByADrum::new);
        numbersThatAreNone("in use", RefusedTest::inUse);
        numbersThatAreNone("full", RefusedTest::full);
        numbersThatAreNone("bare", RefusedTest::bare);
        full("full", RefusedTest::full);
        notAsThingsStand();
        layRefused();
        onlyAsked("new", RungByADrum::new);
        onlyAsked("in use", RefusedTest::inUse);
        onlyAsked("full", RefusedTest::full);
        onlyAsked("bare", RefusedTest::bare);
        aChangeIsSeen();
        due.end();
    }

    // ---- objects as they may stand

    private static RungByADrum inUse() {
        RungByADrum x = Tell.laid(due, "b0,1;b1,2;b6,1;n5;r2;t[ab]bc.a;");
        x.turn();
        x.turn();
        x.keep();
        x.turnBack();
        x.pin(3, 2, true);
        x.shift(2);
        x.want(0, 5);
        x.want(4, 2);
        x.hear(1);
        x.hear(3);
        x.write('n');
        x.write('3');
        return x;
    }

    /** No more letters, sets heard or drums kept have room; 8 can be undone. */
    private static RungByADrum full() {
        String text = "b0,2;b12,1;b1,1;b13,2;b2,1;b6,1;b40,2;b3,1;n32;r3;t(([abcdefgh])2(ah)2.)4;";
        RungByADrum x = Tell.laid(due, text);
        for (int i = text.length(); i < 200; i++) {
            x.write(';');
        }
        for (int i = 0; i < 8; i++) {
            x.hear(i == 0 ? 128 : i * 30);
            x.turn();
            if (i == 3 || i == 5) {
                x.keep();
            }
        }
        x.pin(31, 7, true);
        x.want(31, 255);
        x.want(0, 128);
        x.turnBack();
        return x;
    }

    /** Nothing is on it, nothing was done. */
    private static RungByADrum bare() {
        RungByADrum x = Tell.laid(due, "b40,1;n2;r0;");
        x.wipe();
        return x;
    }

    // ---- all that can be asked

    /** Answers to calls by which all that an object holds is told; it is used up then. */
    private static List<Integer> allThatIsTold(RungByADrum x) {
        List<Integer> told = new ArrayList<>();
        int rows = x.count(1);
        askAll(x, rows, told);
        for (int row = 0; row < rows; row++) {
            told.add(x.want(row, 0));
        }
        for (int i = 0; i < 7; i++) {
            told.add(x.turn());
        }
        told.add(x.turnBack());
        for (int i = 0; i < 8; i++) {
            told.add(x.undo());
        }
        askDrum(x, rows, told);
        for (int i = 0; i < 3; i++) {
            told.add(x.back());
            askDrum(x, rows, told);
            told.add(x.turn());
            told.add(x.turn());
        }
        told.add(x.hear(0));
        told.add(x.forget());
        told.add(x.write('~'));
        told.add(x.fault());
        told.add(x.lay());
        told.add(x.wipe());
        due.holds("an object is used for 512 calls at most", told.size() + MOST_CALLS_TO_MAKE_ONE <= 512);
        return told;
    }

    private static void askAll(RungByADrum x, int rows, List<Integer> told) {
        for (int what = 0; what <= 9; what++) {
            told.add(x.count(what));
        }
        askDrum(x, rows, told);
        int bells = x.count(0);
        for (int b = 0; b < bells; b++) {
            for (int what = 0; what <= 4; what++) {
                told.add(x.bell(b, what));
            }
        }
        for (int what = 0; what <= 2; what++) {
            told.add(x.whole(what));
            told.add(x.melody(what));
        }
        for (int what = 0; what <= 1; what++) {
            told.add(x.canon(what));
            told.add(x.changes(what));
            told.add(x.winter(77, 9, what));
        }
        told.add(x.silence());
        told.add(x.again());
        told.add(x.harsh());
        told.add(x.letters());
        told.add(x.ringers());
        told.add(x.stood());
        told.add(x.octaves());
        told.add(x.fault());
    }

    private static void askDrum(RungByADrum x, int rows, List<Integer> told) {
        // of many rows some are passed over, lest an object is used for more than 512 calls
        for (int row = 0; row < rows; row += rows > 16 && row > 3 && row < 28 ? 5 : 1) {
            told.add(x.pins(row));
        }
        told.add(x.count(3));
        told.add(x.count(4));
        told.add(x.count(5));
        told.add(x.count(7));
        told.add(x.bell(0, 3));
        told.add(x.bell(0, 4));
    }

    private static void changesNothing(String state, Supplier<RungByADrum> making, Call call) {
        RungByADrum x = making.get();
        RungByADrum y = making.get();
        call.made.applyAsInt(x);
        due.holds(call.name + " changes nothing (" + state + ")", allThatIsTold(x).equals(allThatIsTold(y)));
    }

    private static void refused(String state, Supplier<RungByADrum> making, Call call, int answer) {
        RungByADrum x = making.get();
        due.is(call.name + " (" + state + ")", call.made.applyAsInt(x), answer);
        due.is(call.name + " once more (" + state + ")", call.made.applyAsInt(x), answer);
        changesNothing(state, making, call);
    }

    // ---- what is refused

    private static void numbersThatAreNone(String state, Supplier<RungByADrum> making) {
        due.part("BAD: a number is none that is told; nothing changes then");
        RungByADrum as = making.get();
        int bells = as.count(0);
        int rows = as.count(1);
        int all = (1 << bells) - 1;
        List<Call> calls = new ArrayList<>();
        for (int n : Tell.beyond(32, 126)) {
            calls.add(new Call("write(" + n + ")", x -> x.write(n)));
        }
        for (int n : Tell.beyond(0, bells - 1)) {
            calls.add(new Call("bell(" + n + ", 0)", x -> x.bell(n, 0)));
            calls.add(new Call("pin(0, " + n + ", true)", x -> x.pin(0, n, true)));
            calls.add(new Call("pin(0, " + n + ", false)", x -> x.pin(0, n, false)));
        }
        for (int n : Tell.beyond(0, rows - 1)) {
            calls.add(new Call("pins(" + n + ")", x -> x.pins(n)));
            calls.add(new Call("pin(" + n + ", 0, true)", x -> x.pin(n, 0, true)));
            calls.add(new Call("pin(" + n + ", 0, false)", x -> x.pin(n, 0, false)));
            calls.add(new Call("shift(" + n + ")", x -> x.shift(n)));
            calls.add(new Call("want(" + n + ", 1)", x -> x.want(n, 1)));
        }
        for (int n : Tell.beyond(0, all)) {
            calls.add(new Call("want(0, " + n + ")", x -> x.want(0, n)));
            calls.add(new Call("hear(" + n + ")", x -> x.hear(n)));
        }
        calls.addAll(whatsThatAreNone());
        for (Call call : calls) {
            refused(state, making, call, BAD);
        }
    }

    private static List<Call> whatsThatAreNone() {
        List<Call> calls = new ArrayList<>();
        for (int n : Tell.beyond(0, 4)) {
            calls.add(new Call("bell(0, " + n + ")", x -> x.bell(0, n)));
        }
        for (int n : Tell.beyond(0, 2)) {
            calls.add(new Call("whole(" + n + ")", x -> x.whole(n)));
            calls.add(new Call("melody(" + n + ")", x -> x.melody(n)));
        }
        for (int n : Tell.beyond(0, 1)) {
            calls.add(new Call("canon(" + n + ")", x -> x.canon(n)));
            calls.add(new Call("changes(" + n + ")", x -> x.changes(n)));
            calls.add(new Call("winter(5, 5, " + n + ")", x -> x.winter(5, 5, n)));
        }
        for (int n : Tell.beyond(0, 9999)) {
            calls.add(new Call("winter(" + n + ", 5, 0)", x -> x.winter(n, 5, 0)));
        }
        for (int n : Tell.beyond(1, 60)) {
            calls.add(new Call("winter(5, " + n + ", 1)", x -> x.winter(5, n, 1)));
        }
        for (int n : Tell.beyond(0, 9)) {
            calls.add(new Call("count(" + n + ")", x -> x.count(n)));
        }
        return calls;
    }

    private static void full(String state, Supplier<RungByADrum> making) {
        due.part("FULL; nothing changes then");
        refused(state, making, new Call("write('b')", x -> x.write('b')), FULL);
        refused(state, making, new Call("write(' ')", x -> x.write(32)), FULL);
        refused(state, making, new Call("write('~')", x -> x.write(126)), FULL);
        refused(state, making, new Call("hear(0)", x -> x.hear(0)), FULL);
        refused(state, making, new Call("hear(255)", x -> x.hear(255)), FULL);
        refused(state, making, new Call("keep()", RungByADrum::keep), FULL);
    }

    private static void notAsThingsStand() {
        due.part("NO: not as things stand; nothing changes then");
        refused("bare", RefusedTest::bare, new Call("undo()", RungByADrum::undo), NO);
        refused("bare", RefusedTest::bare, new Call("back()", RungByADrum::back), NO);
        refused("bare", RefusedTest::bare, new Call("lay()", RungByADrum::lay), NO);
        refused("bare", RefusedTest::bare, new Call("pin(0, 0, false)", x -> x.pin(0, 0, false)), NO);
        refused("bare", RefusedTest::bare, new Call("pin(1, 0, false)", x -> x.pin(1, 0, false)), NO);
        refused("new", RungByADrum::new, new Call("undo()", RungByADrum::undo), NO);
        refused("new", RungByADrum::new, new Call("back()", RungByADrum::back), NO);
        refused("new", RungByADrum::new, new Call("lay()", RungByADrum::lay), NO);
        refused("new", RungByADrum::new, new Call("pin(0, 0, true)", x -> x.pin(0, 0, true)), NO);
        refused("new", RungByADrum::new, new Call("pin(13, 2, false)", x -> x.pin(13, 2, false)), NO);
        refused("in use", RefusedTest::inUse, new Call("lay()", RungByADrum::lay), NO);
        refused("full", RefusedTest::full, new Call("lay()", RungByADrum::lay), NO);
        refused("full", RefusedTest::full, new Call("pin(31, 7, true)", x -> x.pin(31, 7, true)), NO);
        refused("full", RefusedTest::full, new Call("pin(31, 6, false)", x -> x.pin(31, 6, false)), NO);
        // 8 can be undone, though nothing is kept
        Supplier<RungByADrum> turned = () -> {
            RungByADrum x = new RungByADrum();
            for (int i = 0; i < 9; i++) {
                x.turn();
            }
            return x;
        };
        refused("turned", turned, new Call("back()", RungByADrum::back), NO);
        // nothing can be undone, though drums are kept
        Supplier<RungByADrum> kept = () -> {
            RungByADrum x = new RungByADrum();
            x.turn();
            x.keep();
            x.turn();
            x.keep();
            x.back();
            return x;
        };
        refused("kept", kept, new Call("undo()", RungByADrum::undo), NO);
    }

    private static void layRefused() {
        due.part("5 NO: all stays as it was laid");
        String[] texts = {
            "", "n9;r5;", "t.;", "b41,1;", "b9,2;b8,2;b7,2;b6,2;n2;r6;tabcd;", "b9,2;n31;r6;t((a)8)2(a)9;b41,1;",
            "b9,2;n31;r6;ta;t.;", "b9,2;n2;r6;taaa;", "b9,1;t" + ".".repeat(17) + ";", "b9,1;t" + ".".repeat(33) + ";",
            "b9,2;n2;r6;ta", "b9,2;n2;r6;t((a)2;", Tell.bells(9), "b9,2;n4;r6;n33;", "b9,2;r6;r7;"
        };
        for (String text : texts) {
            Supplier<RungByADrum> making = () -> {
                RungByADrum x = inUse();
                Tell.text(due, x, text);
                return x;
            };
            refused("text " + text, making, new Call("lay()", RungByADrum::lay), NO);
            changesNothing("text " + text, making, new Call("fault()", RungByADrum::fault));
        }
    }

    // ---- what only asks

    private static void onlyAsked(String state, Supplier<RungByADrum> making) {
        due.part("what only asks changes nothing");
        List<Call> calls = new ArrayList<>(List.of(
                new Call("fault()", RungByADrum::fault), new Call("silence()", RungByADrum::silence),
                new Call("again()", RungByADrum::again), new Call("harsh()", RungByADrum::harsh),
                new Call("letters()", RungByADrum::letters), new Call("ringers()", RungByADrum::ringers),
                new Call("stood()", RungByADrum::stood), new Call("octaves()", RungByADrum::octaves)));
        for (int what = 0; what <= 9; what++) {
            int w = what;
            calls.add(new Call("count(" + w + ")", x -> x.count(w)));
        }
        for (int what = 0; what <= 4; what++) {
            int w = what;
            calls.add(new Call("bell(0, " + w + ")", x -> x.bell(0, w)));
        }
        for (int what = 0; what <= 2; what++) {
            int w = what;
            calls.add(new Call("whole(" + w + ")", x -> x.whole(w)));
            calls.add(new Call("melody(" + w + ")", x -> x.melody(w)));
        }
        for (int what = 0; what <= 1; what++) {
            int w = what;
            calls.add(new Call("canon(" + w + ")", x -> x.canon(w)));
            calls.add(new Call("changes(" + w + ")", x -> x.changes(w)));
            calls.add(new Call("winter(0, 60, " + w + ")", x -> x.winter(0, 60, w)));
            calls.add(new Call("winter(9999, 1, " + w + ")", x -> x.winter(9999, 1, w)));
        }
        calls.add(new Call("pins(0)", x -> x.pins(0)));
        calls.add(new Call("pins(last)", x -> x.pins(x.count(1) - 1)));
        for (Call call : calls) {
            changesNothing(state, making, call);
        }
    }

    /** Were the objects not told apart by a change, the tests above would hold of anything. */
    private static void aChangeIsSeen() {
        due.part("a change is seen");
        Call[] calls = {
            new Call("write", x -> x.write('b')), new Call("wipe", RungByADrum::wipe), new Call("turn", RungByADrum::turn),
            new Call("turnBack", RungByADrum::turnBack), new Call("pin in", x -> x.pin(0, 1, true)),
            new Call("pin out", x -> x.pin(3, 1, false)), new Call("shift", x -> x.shift(1)),
            new Call("shift(0)", x -> x.shift(0)), new Call("undo", RungByADrum::undo),
            new Call("want", x -> x.want(1, 3)), new Call("hear", x -> x.hear(0)),
            new Call("forget", RungByADrum::forget), new Call("keep", RungByADrum::keep), new Call("back", RungByADrum::back)
        };
        for (Call call : calls) {
            RungByADrum x = inUse();
            due.holds(call.name + " is done", call.made.applyAsInt(x) >= 0);
            due.holds(call.name + " is seen", !allThatIsTold(x).equals(allThatIsTold(inUse())));
        }
    }
}
