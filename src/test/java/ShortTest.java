import java.util.ArrayList;
import java.util.HashMap;
import java.util.List;
import java.util.Map;

/**
 * "SHORT: the fewest letters of a TUNE that tells what is in ROWS 0 to N less 1, just these": all tunes of a few letters
 * are written out, so that the shortest one for what they tell is known without any reckoning.
 */
public final class ShortTest {
    private static final int MOST_ROWS = 32;
    private static final int MOST_DEEP = 3;
    private static final Due due = new Due();

    private record Tune(String letters, String rows) { }

    // what one row can be, as it is written; in a tune's rows its place here stands for it
    private final String[] signs;
    private final String bells;
    // all.get(deep).get(letters): the tunes of so many letters with ( at most so deep
    private final List<List<List<Tune>>> all = new ArrayList<>();
    private final List<List<List<Tune>>> parts = new ArrayList<>();

    private ShortTest(String bells, String... signs) {
        this.bells = bells;
        this.signs = signs;
    }

    public static void main(String[] args) {
        due.part("20 one BELL");
        new ShortTest("b0,1;", ".", "a").go(9);
        due.part("20 one BELL, all ROWS alike");
        new ShortTest("b0,1;", "a").go(12);
        due.part("20 two BELLS and both");
        new ShortTest("b0,1;b0,1;", "a", "[ab]").go(12);
        due.part("20 a chord of three BELLS, all ROWS alike");
        new ShortTest("b0,1;b0,1;b0,1;", "[abc]").go(18);
        due.end();
    }

    private void go(int most) {
        for (int deep = 0; deep <= MOST_DEEP; deep++) {
            all.add(new ArrayList<>());
            parts.add(new ArrayList<>());
            for (int letters = 0; letters <= most; letters++) {
                parts.get(deep).add(partsOf(deep, letters));
                all.get(deep).add(tunesOf(deep, letters));
            }
        }
        Map<String, Tune> shortest = new HashMap<>();
        for (List<Tune> tunes : all.get(MOST_DEEP)) {
            for (Tune tune : tunes) {
                // shorter ones come first
                shortest.putIfAbsent(tune.rows, tune);
            }
        }
        int asked = 0;
        for (Tune tune : shortest.values()) {
            if (tune.rows.length() >= 2) {
                ask(tune);
                asked++;
            }
        }
        due.holds("there are tunes to ask of", asked > 20);
    }

    private List<Tune> partsOf(int deep, int letters) {
        List<Tune> found = new ArrayList<>();
        for (int i = 0; i < signs.length; i++) {
            if (signs[i].length() == letters) {
                found.add(new Tune(signs[i], String.valueOf(i)));
            }
        }
        if (deep > 0 && letters > 3) {
            for (Tune inner : all.get(deep - 1).get(letters - 3)) {
                for (int times = 2; times <= 9 && inner.rows.length() * times <= MOST_ROWS; times++) {
                    found.add(new Tune("(" + inner.letters + ")" + times, inner.rows.repeat(times)));
                }
            }
        }
        return found;
    }

    /** A first part and, if letters are left, a tune behind it. */
    private List<Tune> tunesOf(int deep, int letters) {
        List<Tune> found = new ArrayList<>(parts.get(deep).get(letters));
        for (int first = 1; first < letters; first++) {
            for (Tune part : parts.get(deep).get(first)) {
                for (Tune rest : all.get(deep).get(letters - first)) {
                    if (part.rows.length() + rest.rows.length() <= MOST_ROWS) {
                        found.add(new Tune(part.letters + rest.letters, part.rows + rest.rows));
                    }
                }
            }
        }
        return found;
    }

    private void ask(Tune tune) {
        RungByADrum x = new RungByADrum();
        String text = bells + "n" + tune.rows.length() + ";t" + tune.letters + ";";
        for (char letter : text.toCharArray()) {
            x.write(letter);
        }
        due.is("lay of " + text, x.lay(), tune.rows.length());
        for (int row = 0; row < tune.rows.length(); row++) {
            due.is("pins(" + row + ") of " + text, x.pins(row), setOf(signs[tune.rows.charAt(row) - '0']));
        }
        due.is("letters of " + text, x.letters(), tune.letters.length());
    }

    private static int setOf(String sign) {
        int set = 0;
        for (char letter : sign.toCharArray()) {
            set |= letter >= 'a' && letter <= 'h' ? 1 << letter - 'a' : 0;
        }
        return set;
    }
}
