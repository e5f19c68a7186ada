import java.math.BigInteger;
import java.util.ArrayList;
import java.util.HashMap;
import java.util.HashSet;
import java.util.List;
import java.util.Map;
import java.util.Set;

/** The document's words, once more and by other means, slow and plain: what the class is held against. */
final class PlainModel {
    private static final int BAD = -1, NO = -2, FULL = -3, NONE = -4;

    /** A ring of a hammer: in which row that came, of which bell, by which hammer. */
    private record Ring(int time, int bell, int hammer) { }

    private record State(List<Set<Integer>> pins, List<Integer> came, List<Ring> rings, List<Integer> missed) {
        State copy() {
            List<Set<Integer>> sets = new ArrayList<>();
            for (Set<Integer> set : pins) {
                sets.add(new HashSet<>(set));
            }
            return new State(sets, new ArrayList<>(came), new ArrayList<>(rings), new ArrayList<>(missed));
        }
    }

    private record Told(int fault, List<int[]> bells, int rows, int rest, List<Set<Integer>> tune) { }

    private String text = "";
    private Told tower;
    private State now;
    private final List<State> undoable = new ArrayList<>();
    private final List<State> kept = new ArrayList<>();
    private Map<Integer, Integer> wanted = new HashMap<>();
    private final List<Integer> heard = new ArrayList<>();

    PlainModel() {
        text = "b0,1;b4,1;b7,2;n14;r1;t(ab)2[ac]..c(bc)2.;";
        lay();
        text = "";
    }

    // ---- reading

    private static Told read(String text) {
        List<int[]> bells = new ArrayList<>();
        int rows = 16;
        int rest = 1;
        List<Set<Integer>> tune = null;
        int place = 0;
        while (place < text.length()) {
            int end = text.indexOf(';', place);
            if (end < 0) {
                return new Told(place, bells, rows, rest, tune);
            }
            String item = text.substring(place, end);
            boolean so = false;
            if (item.matches("b([0-3]?[0-9]|40),0?[12]") && bells.size() < 8) {
                String[] numbers = item.substring(1).split(",");
                bells.add(new int[] {Integer.parseInt(numbers[0]), Integer.parseInt(numbers[1])});
                so = true;
            } else if (item.matches("n(0?[2-9]|[12][0-9]|3[012])")) {
                rows = Integer.parseInt(item.substring(1));
                so = true;
            } else if (item.matches("r0?[0-6]")) {
                rest = Integer.parseInt(item.substring(1));
                so = true;
            } else if (item.startsWith("t") && tune == null) {
                tune = tuneOf(item.substring(1), bells.size(), 0);
                so = tune != null && tune.size() <= 32;
            }
            if (!so) {
                return new Told(place, bells, rows, rest, tune);
            }
            place = end + 1;
        }
        return new Told(NONE, bells, rows, rest, tune);
    }

    /** The rows of a tune, null if it is none. */
    private static List<Set<Integer>> tuneOf(String tune, int bells, int depth) {
        if (tune.isEmpty() || depth > 3) {
            return null;
        }
        List<Set<Integer>> rows = new ArrayList<>();
        while (!tune.isEmpty()) {
            int end = 1;
            if (tune.charAt(0) == '(') {
                int open = 1;
                while (end < tune.length() && open > 0) {
                    open += tune.charAt(end) == '(' ? 1 : tune.charAt(end) == ')' ? -1 : 0;
                    end++;
                }
                if (open > 0 || end >= tune.length() || "23456789".indexOf(tune.charAt(end)) < 0) {
                    return null;
                }
                List<Set<Integer>> inner = tuneOf(tune.substring(1, end - 1), bells, depth + 1);
                if (inner == null) {
                    return null;
                }
                for (int i = '0'; i < tune.charAt(end); i++) {
                    rows.addAll(inner);
                }
                end++;
            } else if (tune.charAt(0) == '[') {
                end = tune.indexOf(']') + 1;
                if (end == 0 || !tune.substring(1, end - 1).matches("a?b?c?d?e?f?g?h?") || end < 4) {
                    return null;
                }
                Set<Integer> set = new HashSet<>();
                for (char letter : tune.substring(1, end - 1).toCharArray()) {
                    if (letter - 'a' >= bells) {
                        return null;
                    }
                    set.add(letter - 'a');
                }
                rows.add(set);
            } else if (tune.charAt(0) == '.') {
                rows.add(new HashSet<>());
            } else {
                int b = "abcdefgh".indexOf(tune.charAt(0));
                if (b < 0 || b >= bells) {
                    return null;
                }
                rows.add(new HashSet<>(List.of(b)));
            }
            tune = tune.substring(end);
        }
        return rows;
    }

    int write(int letter) {
        if (letter < 32 || letter > 126) {
            return BAD;
        }
        if (text.length() == 200) {
            return FULL;
        }
        text += (char) letter;
        return text.length();
    }

    int wipe() {
        int length = text.length();
        text = "";
        return length;
    }

    int fault() {
        return read(text).fault;
    }

    int lay() {
        Told told = read(text);
        int length = told.tune == null ? 0 : told.tune.size();
        if (told.fault != NONE || told.bells.isEmpty() || length > told.rows) {
            return NO;
        }
        tower = told;
        now = new State(new ArrayList<>(), new ArrayList<>(), new ArrayList<>(), new ArrayList<>());
        for (int row = 0; row < told.rows; row++) {
            now.pins.add(row < length ? new HashSet<>(told.tune.get(row)) : new HashSet<>());
        }
        undoable.clear();
        kept.clear();
        wanted = new HashMap<>();
        heard.clear();
        return length;
    }

    // ---- helpers

    private boolean noRow(int row) {
        return row < 0 || row >= tower.rows;
    }

    private boolean noBell(int b) {
        return b < 0 || b >= tower.bells.size();
    }

    private boolean noSet(int set) {
        return set < 0 || set >= Math.pow(2, tower.bells.size());
    }

    private static int bits(Set<Integer> set) {
        int sum = 0;
        for (int b : set) {
            sum += (int) Math.pow(2, b);
        }
        return sum;
    }

    private Set<Integer> at(int row) {
        return now.pins.get(((row % tower.rows) + tower.rows) % tower.rows);
    }

    private int allPins() {
        return now.pins.stream().mapToInt(Set::size).sum();
    }

    private boolean ill(int b, int c) {
        int apart = Math.abs(tower.bells.get(b)[0] - tower.bells.get(c)[0]) % 12;
        return List.of(1, 2, 6, 10, 11).contains(apart);
    }

    // ---- the drum

    int bell(int b, int what) {
        if (noBell(b) || what < 0 || what > 4) {
            return BAD;
        }
        return switch (what) {
            case 0, 1 -> tower.bells.get(b)[what];
            case 2 -> (int) now.pins.stream().filter(set -> set.contains(b)).count();
            case 3 -> (int) now.rings.stream().filter(ring -> ring.bell == b).count();
            default -> (int) now.missed.stream().filter(missed -> missed == b).count();
        };
    }

    int pins(int row) {
        return noRow(row) ? BAD : bits(now.pins.get(row));
    }

    private int latest() {
        return now.came.isEmpty() ? tower.rows : now.came.get(now.came.size() - 1);
    }

    private static int come(State state, Told tower, int row) {
        int time = state.came.size();
        state.came.add(row);
        Set<Integer> ringing = new HashSet<>();
        for (int b = 0; b < tower.bells.size(); b++) {
            if (!state.pins.get(row).contains(b)) {
                continue;
            }
            for (int hammer = 0; hammer < tower.bells.get(b)[1] && !ringing.contains(b); hammer++) {
                boolean rested = true;
                for (int back = 1; back <= tower.rest; back++) {
                    rested &= !state.rings.contains(new Ring(time - back, b, hammer));
                }
                if (rested) {
                    state.rings.add(new Ring(time, b, hammer));
                    ringing.add(b);
                }
            }
            if (!ringing.contains(b)) {
                state.missed.add(b);
            }
        }
        return bits(ringing);
    }

    private void remember() {
        undoable.add(now.copy());
        if (undoable.size() > 8) {
            undoable.remove(0);
        }
    }

    int turn() {
        remember();
        return come(now, tower, now.came.isEmpty() ? 0 : (latest() + 1) % tower.rows);
    }

    int turnBack() {
        remember();
        return come(now, tower, now.came.isEmpty() ? tower.rows - 1 : (latest() + tower.rows - 1) % tower.rows);
    }

    int pin(int row, int b, boolean in) {
        if (noRow(row) || noBell(b)) {
            return BAD;
        }
        if (now.pins.get(row).contains(b) == in) {
            return NO;
        }
        remember();
        if (in) {
            now.pins.get(row).add(b);
        } else {
            now.pins.get(row).remove(b);
        }
        return now.pins.get(row).size();
    }

    int shift(int k) {
        if (noRow(k)) {
            return BAD;
        }
        remember();
        for (int i = 0; i < k; i++) {
            now.pins.add(0, now.pins.remove(tower.rows - 1));
        }
        return pins(0);
    }

    int undo() {
        if (undoable.isEmpty()) {
            return NO;
        }
        now = undoable.remove(undoable.size() - 1);
        return undoable.size();
    }

    // ---- how it sounds

    int whole(int what) {
        if (what < 0 || what > 2) {
            return BAD;
        }
        State state = now.copy();
        int row = latest();
        int ahead = what == 2 ? 8 * tower.rows : 0;
        int rang = 0;
        int missed = 0;
        for (int i = 0; i < ahead + tower.rows; i++) {
            row = row >= tower.rows - 1 ? 0 : row + 1;
            if (i == ahead) {
                rang = state.rings.size();
                missed = state.missed.size();
            }
            come(state, tower, row);
        }
        return what == 0 ? state.rings.size() - rang : state.missed.size() - missed;
    }

    int silence() {
        int most = 0;
        for (int from = 0; from < tower.rows; from++) {
            int length = 0;
            while (length < tower.rows && at(from + length).isEmpty()) {
                length++;
            }
            most = Math.max(most, length);
        }
        return most;
    }

    int again() {
        int p = 1;
        while (true) {
            boolean same = true;
            for (int row = 0; row < tower.rows; row++) {
                same &= at(row).equals(at(row + p));
            }
            if (same) {
                return p;
            }
            p++;
        }
    }

    int harsh() {
        int sum = 0;
        for (Set<Integer> row : now.pins) {
            for (int b : row) {
                for (int c : row) {
                    sum += b < c && ill(b, c) ? 1 : 0;
                }
            }
        }
        return sum;
    }

    int canon(int what) {
        if (what != 0 && what != 1) {
            return BAD;
        }
        int best = 0;
        int fewest = Integer.MAX_VALUE;
        for (int k = tower.rows - 1; k >= 1; k--) {
            int sum = 0;
            for (int row = 0; row < tower.rows; row++) {
                for (int b : at(row)) {
                    for (int c : at(row - k)) {
                        sum += ill(b, c) ? 1 : 0;
                    }
                }
            }
            if (sum <= fewest) {
                fewest = sum;
                best = k;
            }
        }
        return what == 0 ? best : fewest;
    }

    // ---- other tunes

    int want(int row, int set) {
        if (noRow(row) || noSet(set)) {
            return BAD;
        }
        Integer before = wanted.put(row, set);
        return before == null ? 0 : before;
    }

    int changes(int what) {
        if (what != 0 && what != 1) {
            return BAD;
        }
        int best = 0;
        int fewest = Integer.MAX_VALUE;
        for (int k = tower.rows - 1; k >= 0; k--) {
            int sum = 0;
            for (int row = 0; row < tower.rows; row++) {
                int is = bits(at(row - k));
                int due = wanted.getOrDefault(row, 0);
                for (int b = 0; b < 8; b++) {
                    sum += (is & 1 << b) != (due & 1 << b) ? 1 : 0;
                }
            }
            if (sum <= fewest) {
                fewest = sum;
                best = k;
            }
        }
        return what == 0 ? fewest : best;
    }

    int letters() {
        StringBuilder rows = new StringBuilder();
        for (Set<Integer> row : now.pins) {
            rows.append((char) ('A' + bits(row)));
        }
        return shortest(rows.toString(), 3, new HashMap<>());
    }

    /** The fewest letters for rows (a sign each): as one row, as a tune again, or cut in two anywhere. */
    private static int shortest(String rows, int depth, Map<String, Integer> known) {
        if (rows.length() == 1) {
            int bells = Integer.bitCount(rows.charAt(0) - 'A');
            return bells <= 1 ? 1 : bells + 2;
        }
        String key = depth + rows;
        if (known.containsKey(key)) {
            return known.get(key);
        }
        int best = Integer.MAX_VALUE;
        for (int times = 2; times <= 9 && depth > 0; times++) {
            String part = rows.substring(0, rows.length() / times);
            if (!part.isEmpty() && rows.equals(part.repeat(times))) {
                best = Math.min(best, 3 + shortest(part, depth - 1, known));
            }
        }
        for (int cut = 1; cut < rows.length(); cut++) {
            best = Math.min(best, shortest(rows.substring(0, cut), depth, known)
                    + shortest(rows.substring(cut), depth, known));
        }
        known.put(key, best);
        return best;
    }

    int ringers() {
        int bells = tower.bells.size();
        int[] fewest = new int[1 << bells];
        for (int set = 1; set < 1 << bells; set++) {
            fewest[set] = 99;
            for (int one = set; one > 0; one = one - 1 & set) {
                if (fewest[set ^ one] + 1 < fewest[set] && canRing(one)) {
                    fewest[set] = fewest[set ^ one] + 1;
                }
            }
        }
        return fewest[(1 << bells) - 1];
    }

    private boolean canRing(int one) {
        for (Set<Integer> row : now.pins) {
            if (Integer.bitCount(bits(row) & one) > 1) {
                return false;
            }
        }
        return true;
    }

    // ---- what was heard

    int hear(int set) {
        if (noSet(set)) {
            return BAD;
        }
        if (heard.size() == 8) {
            return FULL;
        }
        heard.add(set);
        return heard.size();
    }

    int forget() {
        int many = heard.size();
        heard.clear();
        return many;
    }

    int stood() {
        long sum = 0;
        for (int row = 0; row < tower.rows; row++) {
            boolean so = true;
            for (int i = 0; i < heard.size(); i++) {
                so &= bits(at(row + i)) == heard.get(i);
            }
            sum += so ? 1L << row : 0;
        }
        return (int) sum;
    }

    int octaves() {
        int sum = 0;
        for (int number = 0; number < 12; number++) {
            int many = 0;
            for (int[] bell : tower.bells) {
                many += bell[0] % 12 == number ? 1 : 0;
            }
            sum += many >= 2 ? 1 : 0;
        }
        return sum;
    }

    int melody(int what) {
        if (what < 0 || what > 2) {
            return BAD;
        }
        List<Integer> tones = new ArrayList<>();
        for (Set<Integer> row : now.pins) {
            row.stream().map(b -> tower.bells.get(b)[0]).max(Integer::compare).ifPresent(tones::add);
        }
        int[] answers = new int[3];
        for (int i = 1; i < tones.size(); i++) {
            int by = tones.get(i) - tones.get(i - 1);
            answers[0] += by > 0 ? 1 : 0;
            answers[1] += by < 0 ? 1 : 0;
            answers[2] = Math.max(answers[2], Math.abs(by));
        }
        return answers[what];
    }

    int winter(int z, int n, int what) {
        if (z < 0 || z > 9999 || n < 1 || n > 60 || what < 0 || what > 1) {
            return BAD;
        }
        State state = now.copy();
        for (int k = 0; k < n; k++) {
            BigInteger x = BigInteger.valueOf(7919).multiply(BigInteger.valueOf(z))
                    .add(BigInteger.valueOf(6151).multiply(BigInteger.valueOf(k))).add(BigInteger.ONE);
            int draw = x.multiply(x).mod(BigInteger.valueOf(65521)).divide(BigInteger.valueOf(8)).intValue();
            Set<Integer> row = state.pins.get(draw % tower.rows);
            row.stream().min(Integer::compare).ifPresent(row::remove);
        }
        return what == 0 ? state.pins.stream().mapToInt(Set::size).sum()
                : (int) state.pins.stream().filter(Set::isEmpty).count();
    }

    int keep() {
        if (kept.size() == 2) {
            return FULL;
        }
        kept.add(now.copy());
        return kept.size();
    }

    int back() {
        if (kept.isEmpty()) {
            return NO;
        }
        now = kept.remove(kept.size() - 1);
        undoable.clear();
        return kept.size();
    }

    int count(int what) {
        return switch (what) {
            case 0 -> tower.bells.size();
            case 1 -> tower.rows;
            case 2 -> tower.rest;
            case 3 -> allPins();
            case 4 -> now.came.size();
            case 5 -> latest();
            case 6 -> heard.size();
            case 7 -> undoable.size();
            case 8 -> kept.size();
            case 9 -> text.length();
            default -> BAD;
        };
    }
}
