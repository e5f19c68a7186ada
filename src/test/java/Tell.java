import java.util.ArrayList;
import java.util.List;

/** What tests of edges share: texts told and laid, wrong numbers on either side. */
final class Tell {
    private Tell() { }

    /** The text is this one, letter by letter. */
    static void text(Due due, RungByADrum x, String text) {
        x.wipe();
        for (int i = 0; i < text.length(); i++) {
            due.is("write in " + text, x.write(text.charAt(i)), i + 1);
        }
    }

    static RungByADrum laid(Due due, String text) {
        RungByADrum x = new RungByADrum();
        text(due, x, text);
        due.is("fault of " + text, x.fault(), RungByADrum.NONE);
        due.holds("lay of " + text, x.lay() >= 0);
        return x;
    }

    /** So many bells of tone 0 with one hammer. */
    static String bells(int many) {
        return "b0,1;".repeat(many);
    }

    /** Numbers outside of first to last: the next ones on either side, far ones, and some whose low bits are inside. */
    static List<Integer> beyond(int first, int last) {
        List<Integer> numbers = new ArrayList<>();
        int[] tried = {
            first - 1, last + 1, first - 2, last + 2, Integer.MIN_VALUE, Integer.MAX_VALUE, Integer.MIN_VALUE + first,
            first + 32, last + 32, first + 256, first + 65536, last + 65536, first - 32, first - 256, first - 65536
        };
        for (int number : tried) {
            if ((number < first || number > last) && !numbers.contains(number)) {
                numbers.add(number);
            }
        }
        return numbers;
    }

    static void rowsAre(Due due, RungByADrum x, int... sets) {
        due.is("ROWS", x.count(1), sets.length);
        for (int row = 0; row < sets.length; row++) {
            due.is("pins(" + row + ")", x.pins(row), sets[row]);
        }
    }
}
