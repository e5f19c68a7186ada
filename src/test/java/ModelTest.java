import java.util.Random;

/** Runs of calls drawn from fixed seeds: the class answers as the plain model does. */
public final class ModelTest {
    private static final int RUNS = 600;
    private static final int CALLS = 512;
    private static final Due due = new Due();

    private final Random random;
    private final RungByADrum x = new RungByADrum();
    private final PlainModel model = new PlainModel();
    private int calls;

    private ModelTest(long seed) {
        random = new Random(seed);
    }

    public static void main(String[] args) {
        for (int run = 0; run < RUNS; run++) {
            due.part("run " + run);
            new ModelTest(run).go();
        }
        due.end();
    }

    private void go() {
        // two may be asked in one step
        while (calls + 2 <= CALLS) {
            if (random.nextInt(150) == 0 || calls == 0 && random.nextBoolean()) {
                newText();
            }
            call();
        }
    }

    private void is(String call, int got, int want) {
        calls++;
        due.is(call, got, want);
    }

    // ---- texts

    private void newText() {
        String text = randomText();
        if (random.nextInt(3) == 0) {
            text = spoilt(text);
        }
        // behind its 512th call nothing is promised of an object; wipe, fault, lay and a call come too
        if (calls + text.length() + 5 > CALLS) {
            return;
        }
        is("wipe", x.wipe(), model.wipe());
        for (char letter : text.toCharArray()) {
            is("write in " + text, x.write(letter), model.write(letter));
        }
        is("fault of " + text, x.fault(), model.fault());
        is("lay of " + text, x.lay(), model.lay());
    }

    private String randomText() {
        StringBuilder text = new StringBuilder();
        int bells = random.nextInt(10) == 0 ? 8 : 1 + random.nextInt(random.nextInt(10) == 0 ? 9 : 6);
        int most = random.nextInt(3) == 0 ? 14 : 41;
        for (int i = 0; i < bells; i++) {
            text.append('b').append(random.nextInt(most)).append(',').append(1 + random.nextInt(2)).append(';');
        }
        int rows = 2 + random.nextInt(31);
        if (random.nextInt(8) != 0) {
            text.append('n').append(rows).append(';');
        }
        if (random.nextInt(4) != 0) {
            text.append('r').append(random.nextInt(7)).append(';');
        }
        if (random.nextInt(10) != 0) {
            text.append('t').append(randomTune(bells, 0, rows)).append(';');
        }
        return text.toString();
    }

    private String randomTune(int bells, int depth, int rows) {
        StringBuilder tune = new StringBuilder();
        int parts = 1 + random.nextInt(Math.max(1, Math.min(rows, 8)));
        int left = rows;
        for (int i = 0; i < parts && left > 0; i++) {
            int kind = random.nextInt(8);
            if (kind < 2 && left >= 2 && depth < (random.nextInt(40) == 0 ? 4 : 3)) {
                int times = 2 + random.nextInt(Math.min(8, left - 1));
                int inner = Math.max(1, left / times);
                tune.append('(').append(randomTune(bells, depth + 1, inner)).append(')').append(times);
                left -= inner * times;
            } else if (kind == 2 && bells >= 2) {
                int set = 0;
                while (Integer.bitCount(set) < 2) {
                    set = random.nextInt(1 << bells);
                }
                tune.append('[');
                for (int b = 0; b < bells; b++) {
                    tune.append((set >> b & 1) == 1 ? String.valueOf((char) ('a' + b)) : "");
                }
                tune.append(']');
                left--;
            } else {
                tune.append(kind == 3 ? '.' : (char) ('a' + random.nextInt(bells)));
                left--;
            }
        }
        return tune.toString();
    }

    private String spoilt(String text) {
        String signs = "bnrt;,.()[]0123456789abcdefghi ;;";
        StringBuilder other = new StringBuilder(text);
        for (int i = random.nextInt(2); i >= 0; i--) {
            int place = random.nextInt(other.length());
            char sign = signs.charAt(random.nextInt(signs.length()));
            switch (random.nextInt(3)) {
                case 0 -> other.setCharAt(place, sign);
                case 1 -> other.insert(place, sign);
                default -> other.deleteCharAt(place);
            }
            if (other.length() == 0) {
                other.append('t');
            }
        }
        return other.toString();
    }

    // ---- calls

    /** A number below a bound, now and then one that is none. */
    private int number(int bound) {
        return switch (random.nextInt(30)) {
            case 0 -> bound;
            case 1 -> -1;
            case 2 -> random.nextBoolean() ? random.nextInt() : Integer.MIN_VALUE;
            default -> random.nextInt(bound);
        };
    }

    private int row() {
        return number(model.count(1));
    }

    private int bell() {
        return number(model.count(0));
    }

    private int set() {
        if (random.nextInt(3) == 0) {
            return model.pins(random.nextInt(model.count(1)));
        }
        return number(1 << model.count(0));
    }

    private void call() {
        switch (random.nextInt(6)) {
            case 0 -> askText();
            case 1, 2 -> drive();
            case 3 -> askSound();
            case 4 -> askTunes();
            default -> askHeard();
        }
    }

    private void askText() {
        int row = row();
        int b = bell();
        int what = number(5);
        switch (random.nextInt(24)) {
            case 0 -> is("fault", x.fault(), model.fault());
            case 1 -> is("lay", x.lay(), model.lay());
            case 2 -> {
                int letter = random.nextInt(150) - 10;
                is("write(" + letter + ")", x.write(letter), model.write(letter));
            }
            default -> {
                is("pins(" + row + ")", x.pins(row), model.pins(row));
                is("bell(" + b + ", " + what + ")", x.bell(b, what), model.bell(b, what));
            }
        }
    }

    private void drive() {
        int row = row();
        int b = bell();
        boolean in = random.nextBoolean();
        switch (random.nextInt(10)) {
            case 0, 1, 2 -> is("turn", x.turn(), model.turn());
            case 3, 4 -> is("turnBack", x.turnBack(), model.turnBack());
            case 5, 6 -> is("pin(" + row + ", " + b + ", " + in + ")", x.pin(row, b, in), model.pin(row, b, in));
            case 7 -> is("shift(" + row + ")", x.shift(row), model.shift(row));
            default -> is("undo", x.undo(), model.undo());
        }
    }

    private void askSound() {
        int what = number(3);
        switch (random.nextInt(6)) {
            case 0, 1 -> is("whole(" + what + ")", x.whole(what), model.whole(what));
            case 2 -> is("silence", x.silence(), model.silence());
            case 3 -> is("again", x.again(), model.again());
            case 4 -> is("harsh", x.harsh(), model.harsh());
            default -> is("canon(" + what + ")", x.canon(what), model.canon(what));
        }
    }

    private void askTunes() {
        int row = row();
        int set = set();
        int what = number(2);
        switch (random.nextInt(8)) {
            case 0, 1, 2 -> is("want(" + row + ", " + set + ")", x.want(row, set), model.want(row, set));
            case 3, 4 -> is("changes(" + what + ")", x.changes(what), model.changes(what));
            case 5 -> is("letters", x.letters(), model.letters());
            default -> is("ringers", x.ringers(), model.ringers());
        }
    }

    private void askHeard() {
        int set = set();
        int what = number(10);
        int z = number(10000);
        int n = number(61);
        int part = number(3);
        switch (random.nextInt(14)) {
            case 0, 1, 2 -> is("hear(" + set + ")", x.hear(set), model.hear(set));
            case 3 -> is("forget", x.forget(), model.forget());
            case 4, 5 -> is("stood", x.stood(), model.stood());
            case 6 -> is("octaves", x.octaves(), model.octaves());
            case 7, 8 -> is("melody(" + part + ")", x.melody(part), model.melody(part));
            case 9 -> is("winter(" + z + ", " + n + ", " + part + ")", x.winter(z, n, part), model.winter(z, n, part));
            case 10 -> is("keep", x.keep(), model.keep());
            case 11 -> is("back", x.back(), model.back());
            default -> is("count(" + what + ")", x.count(what), model.count(what));
        }
    }
}
