import java.util.Arrays;

/** Bells in a tower, rung by a drum with pins; ../shared/DOC.md says what each call answers. */
public final class RungByADrum {
    public static final int BAD = -1, NO = -2, FULL = -3, NONE = -4;

    private static final int MOST_LETTERS = 200;
    private static final int MOST_BELLS = 8;
    private static final int MOST_HAMMERS = 2;
    private static final int MOST_TONE = 40;
    private static final int MOST_ROWS = 32;
    private static final int MOST_REST = 6;
    private static final int MOST_NESTED = 3;
    private static final int MOST_TIMES = 9;
    private static final int MOST_UNDONE = 8;
    private static final int MOST_KEPT = 2;
    private static final int MOST_HEARD = 8;
    private static final int OCTAVE = 12;
    private static final int TURNS_AHEAD = 8;
    private static final int MOST_SEED = 9999;
    private static final int MOST_DRAWS = 60;
    private static final String FIRST_TEXT = "b0,1;b4,1;b7,2;n14;r1;t(ab)2[ac]..c(bc)2.;";

    private final Text text = new Text();
    private Tower tower = new Tower();
    private Tower told = new Tower();
    private final Drum drum = new Drum();
    private final Drum tried = new Drum();
    private final Shelf undoable = new Shelf(MOST_UNDONE);
    private final Shelf kept = new Shelf(MOST_KEPT);
    private final int[] wanted = new int[MOST_ROWS];
    private final int[] heard = new int[MOST_HEARD];
    private int heardCount;
    private final Shortener shortener = new Shortener();
    private final Parting parting = new Parting();

    public RungByADrum() {
        for (int i = 0; i < FIRST_TEXT.length(); i++) {
            text.append(FIRST_TEXT.charAt(i));
        }
        text.readInto(told);
        layTold();
        text.clear();
    }

    // ---- towers

    public int write(int letter) {
        if (letter < 32 || letter > 126) {
            return BAD;
        }
        return text.append(letter) ? text.length : FULL;
    }

    public int wipe() {
        int before = text.length;
        text.clear();
        return before;
    }

    public int fault() {
        return text.readInto(told);
    }

    public int lay() {
        if (text.readInto(told) != NONE || !told.canBeLaid()) {
            return NO;
        }
        layTold();
        return tower.tuneRows;
    }

    public int bell(int b, int what) {
        if (!isBell(b)) {
            return BAD;
        }
        switch (what) {
            case 0:
                return tower.tones[b];
            case 1:
                return tower.hammers[b];
            case 2:
                return pinsOfBell(b);
            case 3:
                return drum.rung[b];
            case 4:
                return drum.missed[b];
            default:
                return BAD;
        }
    }

    public int pins(int row) {
        return isRow(row) ? drum.pins[row] : BAD;
    }

    private void layTold() {
        // the two change places, so that no tower has to be made anew
        Tower before = tower;
        tower = told;
        told = before;
        drum.startWith(tower);
        Arrays.fill(wanted, 0);
        heardCount = 0;
        undoable.clear();
        kept.clear();
    }

    private boolean isBell(int b) {
        return b >= 0 && b < tower.bells;
    }

    private boolean isRow(int row) {
        return row >= 0 && row < tower.rows;
    }

    private boolean isSet(int set) {
        return set >= 0 && set <= tower.everyBell();
    }

    private int pinsOfBell(int b) {
        int sum = 0;
        for (int row = 0; row < tower.rows; row++) {
            sum += drum.pins[row] >> b & 1;
        }
        return sum;
    }

    // ---- the drum

    public int turn() {
        undoable.put(drum);
        return drum.turnOn(tower);
    }

    public int turnBack() {
        undoable.put(drum);
        return drum.turnOff(tower);
    }

    public int pin(int row, int b, boolean in) {
        if (!isRow(row) || !isBell(b)) {
            return BAD;
        }
        boolean isIn = (drum.pins[row] >> b & 1) == 1;
        if (isIn == in) {
            return NO;
        }
        undoable.put(drum);
        drum.pins[row] ^= 1 << b;
        return Integer.bitCount(drum.pins[row]);
    }

    public int shift(int k) {
        if (!isRow(k)) {
            return BAD;
        }
        undoable.put(drum);
        for (int row = 0; row < tower.rows; row++) {
            tried.pins[tower.rowBehind(row, k)] = drum.pins[row];
        }
        System.arraycopy(tried.pins, 0, drum.pins, 0, tower.rows);
        return drum.pins[0];
    }

    public int undo() {
        return undoable.takeInto(drum) ? undoable.held : NO;
    }

    // ---- how it sounds

    public int whole(int what) {
        if (what < 0 || what > 2) {
            return BAD;
        }
        tried.copy(drum);
        if (what == 2) {
            for (int turns = 0; turns < TURNS_AHEAD; turns++) {
                ringsInATurn(tried);
            }
        }
        int rings = ringsInATurn(tried);
        // each row comes once in a turn, so what does not ring of all pins is missed
        return what == 0 ? rings : allPins() - rings;
    }

    public int silence() {
        int most = 0;
        int now = 0;
        // a silence that goes on past the last row is whole in the second round
        for (int step = 0; step < 2 * tower.rows; step++) {
            now = drum.pins[tower.rowBehind(0, step)] == 0 ? now + 1 : 0;
            most = Math.max(most, now);
        }
        return Math.min(most, tower.rows);
    }

    public int again() {
        for (int p = 1; p < tower.rows; p++) {
            if (comesAgainAfter(p)) {
                return p;
            }
        }
        return tower.rows;
    }

    public int harsh() {
        // each two is met from both its bells
        return illTwos(0) / 2;
    }

    public int canon(int what) {
        if (what < 0 || what > 1) {
            return BAD;
        }
        int best = 1;
        int fewest = illTwos(1);
        for (int k = 2; k < tower.rows; k++) {
            int twos = illTwos(k);
            if (twos < fewest) {
                best = k;
                fewest = twos;
            }
        }
        return what == 0 ? best : fewest;
    }

    private int ringsInATurn(Drum turned) {
        int rings = 0;
        for (int step = 0; step < tower.rows; step++) {
            rings += Integer.bitCount(turned.turnOn(tower));
        }
        return rings;
    }

    private int allPins() {
        int sum = 0;
        for (int row = 0; row < tower.rows; row++) {
            sum += Integer.bitCount(drum.pins[row]);
        }
        return sum;
    }

    private boolean comesAgainAfter(int p) {
        for (int row = 0; row < tower.rows; row++) {
            if (drum.pins[row] != drum.pins[tower.rowBehind(row, p)]) {
                return false;
            }
        }
        return true;
    }

    /** How often a pin of a row sounds ill with a pin of the row k behind it, for all rows. */
    private int illTwos(int k) {
        int twos = 0;
        for (int row = 0; row < tower.rows; row++) {
            int other = drum.pins[tower.rowBehind(row, k)];
            for (int b = 0; b < tower.bells && other != 0; b++) {
                if ((drum.pins[row] >> b & 1) == 1) {
                    twos += Integer.bitCount(tower.illWith[b] & other);
                }
            }
        }
        return twos;
    }

    // ---- other tunes

    public int want(int row, int set) {
        if (!isRow(row) || !isSet(set)) {
            return BAD;
        }
        int before = wanted[row];
        wanted[row] = set;
        return before;
    }

    public int changes(int what) {
        if (what < 0 || what > 1) {
            return BAD;
        }
        int best = 0;
        int fewest = changesIfShifted(0);
        for (int k = 1; k < tower.rows; k++) {
            int needed = changesIfShifted(k);
            if (needed < fewest) {
                best = k;
                fewest = needed;
            }
        }
        return what == 0 ? fewest : best;
    }

    public int letters() {
        return shortener.fewestLetters(drum.pins, tower.rows);
    }

    public int ringers() {
        return parting.fewestPeople(drum.pins, tower);
    }

    private int changesIfShifted(int k) {
        int sum = 0;
        for (int row = 0; row < tower.rows; row++) {
            sum += Integer.bitCount(drum.pins[row] ^ wanted[tower.rowBehind(row, k)]);
        }
        return sum;
    }

    // ---- what was heard

    public int hear(int set) {
        if (!isSet(set)) {
            return BAD;
        }
        if (heardCount >= MOST_HEARD) {
            return FULL;
        }
        heard[heardCount] = set;
        heardCount++;
        return heardCount;
    }

    public int forget() {
        int before = heardCount;
        heardCount = 0;
        return before;
    }

    public int stood() {
        int rows = 0;
        for (int row = 0; row < tower.rows; row++) {
            if (isHeardFrom(row)) {
                rows |= 1 << row;
            }
        }
        return rows;
    }

    public int octaves() {
        int once = 0;
        int more = 0;
        for (int b = 0; b < tower.bells; b++) {
            int bit = 1 << tower.tones[b] % OCTAVE;
            more |= once & bit;
            once |= bit;
        }
        return Integer.bitCount(more);
    }

    public int melody(int what) {
        if (what < 0 || what > 2) {
            return BAD;
        }
        int rises = 0;
        int falls = 0;
        int most = 0;
        int ahead = NONE;
        for (int row = 0; row < tower.rows; row++) {
            int tone = tower.highestTone(drum.pins[row]);
            if (tone != NONE && ahead != NONE) {
                rises += tone > ahead ? 1 : 0;
                falls += tone < ahead ? 1 : 0;
                most = Math.max(most, Math.abs(tone - ahead));
            }
            ahead = tone != NONE ? tone : ahead;
        }
        return what == 0 ? rises : what == 1 ? falls : most;
    }

    public int winter(int z, int n, int what) {
        if (z < 0 || z > MOST_SEED || n < 1 || n > MOST_DRAWS || what < 0 || what > 1) {
            return BAD;
        }
        tried.copy(drum);
        for (int k = 0; k < n; k++) {
            int row = tower.rowBehind(0, draw(z, k));
            tried.pins[row] &= tried.pins[row] - 1;
        }
        int pins = 0;
        int bare = 0;
        for (int row = 0; row < tower.rows; row++) {
            pins += Integer.bitCount(tried.pins[row]);
            bare += tried.pins[row] == 0 ? 1 : 0;
        }
        return what == 0 ? pins : bare;
    }

    public int keep() {
        if (kept.held >= MOST_KEPT) {
            return FULL;
        }
        kept.put(drum);
        return kept.held;
    }

    public int back() {
        if (!kept.takeInto(drum)) {
            return NO;
        }
        undoable.clear();
        return kept.held;
    }

    public int count(int what) {
        switch (what) {
            case 0:
                return tower.bells;
            case 1:
                return tower.rows;
            case 2:
                return tower.rest;
            case 3:
                return allPins();
            case 4:
                return drum.turned;
            case 5:
                return drum.latest;
            case 6:
                return heardCount;
            case 7:
                return undoable.held;
            case 8:
                return kept.held;
            case 9:
                return text.length;
            default:
                return BAD;
        }
    }

    private boolean isHeardFrom(int row) {
        for (int i = 0; i < heardCount; i++) {
            if (drum.pins[tower.rowBehind(row, i)] != heard[i]) {
                return false;
            }
        }
        return true;
    }

    private static int draw(int z, int k) {
        // x times x is more than an int holds
        long x = 7919L * z + 6151L * k + 1;
        return (int) (x * x % 65521 / 8);
    }

    /** What a text tells. */
    private static final class Tower {
        // as bits, how far apart tones are that sound ill, modulo 12
        private static final int ILL = 1 << 1 | 1 << 2 | 1 << 6 | 1 << 10 | 1 << 11;
        private static final int USUAL_ROWS = 16;
        private static final int USUAL_REST = 1;

        int bells;
        final int[] tones = new int[MOST_BELLS];
        final int[] hammers = new int[MOST_BELLS];
        final int[] illWith = new int[MOST_BELLS];
        int rows = USUAL_ROWS;
        int rest = USUAL_REST;
        boolean hasTune;
        int tuneRows;
        final int[] tune = new int[MOST_ROWS];

        void clear() {
            bells = 0;
            rows = USUAL_ROWS;
            rest = USUAL_REST;
            hasTune = false;
            tuneRows = 0;
        }

        boolean addBell(int tone, int hammerCount) {
            if (bells >= MOST_BELLS || tone < 0 || tone > MOST_TONE
                    || hammerCount < 1 || hammerCount > MOST_HAMMERS) {
                return false;
            }
            tones[bells] = tone;
            hammers[bells] = hammerCount;
            illWith[bells] = 0;
            for (int b = 0; b < bells; b++) {
                if ((ILL >> Math.abs(tones[b] - tone) % OCTAVE & 1) == 1) {
                    illWith[b] |= 1 << bells;
                    illWith[bells] |= 1 << b;
                }
            }
            bells++;
            return true;
        }

        boolean tellRows(int number) {
            if (number < 2 || number > MOST_ROWS) {
                return false;
            }
            rows = number;
            return true;
        }

        boolean tellRest(int number) {
            if (number < 0 || number > MOST_REST) {
                return false;
            }
            rest = number;
            return true;
        }

        boolean addRow(int set) {
            if (tuneRows >= MOST_ROWS) {
                return false;
            }
            tune[tuneRows] = set;
            tuneRows++;
            return true;
        }

        /** The rows of the tune from one on are told so often in all. */
        boolean tellAgain(int from, int times) {
            int length = tuneRows - from;
            if (from < 0 || length < 1 || from + length * times > MOST_ROWS) {
                return false;
            }
            for (int i = 0; i < length * (times - 1); i++) {
                addRow(tune[from + i]);
            }
            return true;
        }

        boolean canBeLaid() {
            return bells > 0 && tuneRows <= rows;
        }

        int everyBell() {
            return (1 << bells) - 1;
        }

        /** The row so many rows behind a row, round. */
        int rowBehind(int row, int k) {
            return rows > 0 ? Math.floorMod(row + k, rows) : 0;
        }

        int highestTone(int set) {
            int highest = NONE;
            for (int b = 0; b < bells; b++) {
                if ((set >> b & 1) == 1) {
                    highest = Math.max(highest, tones[b]);
                }
            }
            return highest;
        }
    }

    /** The letters that are written, and the reading of them. */
    private static final class Text {
        private final int[] letters = new int[MOST_LETTERS];
        int length;
        private int place;
        private final int[] openedAt = new int[MOST_NESTED];

        boolean append(int letter) {
            if (length >= MOST_LETTERS) {
                return false;
            }
            letters[length] = letter;
            length++;
            return true;
        }

        void clear() {
            length = 0;
        }

        /** The place of the first item that is not so (NONE without); the tower is as the items ahead of it tell. */
        int readInto(Tower tower) {
            tower.clear();
            place = 0;
            for (int items = 0; items < MOST_LETTERS && place < length; items++) {
                int start = place;
                if (!readItem(tower) || !accept(';')) {
                    return start;
                }
            }
            return NONE;
        }

        private boolean readItem(Tower tower) {
            int kind = peek();
            place++;
            switch (kind) {
                case 'b':
                    return readBell(tower);
                case 'n':
                    return tower.tellRows(readNumber());
                case 'r':
                    return tower.tellRest(readNumber());
                case 't':
                    return readTune(tower);
                default:
                    return false;
            }
        }

        private boolean readBell(Tower tower) {
            int tone = readNumber();
            return accept(',') && tower.addBell(tone, readNumber());
        }

        private boolean readTune(Tower tower) {
            if (tower.hasTune) {
                return false;
            }
            tower.hasTune = true;
            int open = 0;
            for (int parts = 0; parts < MOST_LETTERS && peek() != ';'; parts++) {
                if (accept('(')) {
                    if (open >= MOST_NESTED) {
                        return false;
                    }
                    openedAt[open] = tower.tuneRows;
                    open++;
                } else if (accept(')')) {
                    int times = readFigure();
                    if (open < 1 || times < 2 || !tower.tellAgain(openedAt[open - 1], times)) {
                        return false;
                    }
                    open--;
                } else {
                    int set = readSet(tower.bells);
                    if (set < 0 || !tower.addRow(set)) {
                        return false;
                    }
                }
            }
            return open == 0 && tower.tuneRows > 0;
        }

        /** The bells that a part without ( tells; negative, if there is no such part. */
        private int readSet(int bells) {
            if (accept('.')) {
                return 0;
            }
            if (!accept('[')) {
                int b = readBellLetter(bells);
                return b < 0 ? -1 : 1 << b;
            }
            int set = 0;
            for (int i = 0; i < MOST_BELLS && peek() != ']'; i++) {
                int b = readBellLetter(bells);
                // in order and unlike: no bell so far is this one or a later one
                if (b < 0 || set >> b != 0) {
                    return -1;
                }
                set |= 1 << b;
            }
            return accept(']') && Integer.bitCount(set) >= 2 ? set : -1;
        }

        private int readBellLetter(int bells) {
            int b = peek() - 'a';
            place++;
            return b >= 0 && b < bells ? b : -1;
        }

        private int readNumber() {
            int first = readFigure();
            if (first < 0) {
                return -1;
            }
            int second = readFigure();
            return second < 0 ? first : first * 10 + second;
        }

        private int readFigure() {
            int figure = peek() - '0';
            if (figure < 0 || figure > 9) {
                return -1;
            }
            place++;
            return figure;
        }

        private boolean accept(int letter) {
            if (peek() != letter) {
                return false;
            }
            place++;
            return true;
        }

        private int peek() {
            return place >= 0 && place < length ? letters[place] : 0;
        }
    }

    /** Pins, where the drum is, what hammers did, and what was counted. */
    private static final class Drum {
        static final int CELLS = MOST_ROWS + MOST_BELLS * (MOST_HAMMERS + 2) + 2;

        final int[] pins = new int[MOST_ROWS];
        // by which count of rows turned a hammer can ring again
        private final int[] ready = new int[MOST_BELLS * MOST_HAMMERS];
        final int[] rung = new int[MOST_BELLS];
        final int[] missed = new int[MOST_BELLS];
        int latest;
        int turned;

        void startWith(Tower tower) {
            Arrays.fill(pins, 0);
            System.arraycopy(tower.tune, 0, pins, 0, tower.tuneRows);
            Arrays.fill(ready, 0);
            Arrays.fill(rung, 0);
            Arrays.fill(missed, 0);
            latest = tower.rows;
            turned = 0;
        }

        int turnOn(Tower tower) {
            return ringRow(latest >= tower.rows - 1 ? 0 : latest + 1, tower);
        }

        int turnOff(Tower tower) {
            // of none as yet, latest is how many rows there are, so the last one is ahead of it
            return ringRow(latest <= 0 ? tower.rows - 1 : latest - 1, tower);
        }

        private int ringRow(int row, Tower tower) {
            if (row < 0 || row >= MOST_ROWS) {
                return 0;
            }
            latest = row;
            turned++;
            int ringing = 0;
            for (int b = 0; b < tower.bells; b++) {
                if ((pins[row] >> b & 1) == 0) {
                    continue;
                }
                if (strike(b, tower)) {
                    ringing |= 1 << b;
                    rung[b]++;
                } else {
                    missed[b]++;
                }
            }
            return ringing;
        }

        private boolean strike(int b, Tower tower) {
            int first = b * MOST_HAMMERS;
            for (int hammer = first; hammer < first + tower.hammers[b]; hammer++) {
                if (ready[hammer] <= turned) {
                    ready[hammer] = turned + tower.rest + 1;
                    return true;
                }
            }
            return false;
        }

        void copy(Drum other) {
            System.arraycopy(other.pins, 0, pins, 0, pins.length);
            System.arraycopy(other.ready, 0, ready, 0, ready.length);
            System.arraycopy(other.rung, 0, rung, 0, rung.length);
            System.arraycopy(other.missed, 0, missed, 0, missed.length);
            latest = other.latest;
            turned = other.turned;
        }

        void saveTo(int[] cells, int from) {
            if (from < 0 || from + CELLS > cells.length) {
                return;
            }
            int at = from;
            cells[at++] = latest;
            cells[at++] = turned;
            System.arraycopy(pins, 0, cells, at, pins.length);
            at += pins.length;
            System.arraycopy(ready, 0, cells, at, ready.length);
            at += ready.length;
            System.arraycopy(rung, 0, cells, at, rung.length);
            at += rung.length;
            System.arraycopy(missed, 0, cells, at, missed.length);
        }

        void loadFrom(int[] cells, int from) {
            if (from < 0 || from + CELLS > cells.length) {
                return;
            }
            int at = from;
            latest = cells[at++];
            turned = cells[at++];
            System.arraycopy(cells, at, pins, 0, pins.length);
            at += pins.length;
            System.arraycopy(cells, at, ready, 0, ready.length);
            at += ready.length;
            System.arraycopy(cells, at, rung, 0, rung.length);
            at += rung.length;
            System.arraycopy(cells, at, missed, 0, missed.length);
        }
    }

    /** Drums as they were, the last one put is taken first; of too many the first one put is lost. */
    private static final class Shelf {
        private final int places;
        private final int[] cells;
        private int next;
        int held;

        Shelf(int most) {
            places = Math.max(most, 1);
            cells = new int[places * Drum.CELLS];
        }

        void clear() {
            held = 0;
        }

        void put(Drum drum) {
            drum.saveTo(cells, next * Drum.CELLS);
            next = next + 1 < places ? next + 1 : 0;
            held = Math.min(held + 1, places);
        }

        boolean takeInto(Drum drum) {
            if (held < 1) {
                return false;
            }
            held--;
            next = next > 0 ? next - 1 : places - 1;
            drum.loadFrom(cells, next * Drum.CELLS);
            return true;
        }
    }

    /** The fewest letters in which rows can be written as a tune. */
    private static final class Shortener {
        private static final int ENDS = MOST_ROWS + 1;
        // the letters ( ) and the figure
        private static final int AGAIN_LETTERS = 3;

        // fewest[d][from * ENDS + to]: letters for rows from .. to - 1 with ( at most d deep
        private final int[][] fewest = new int[MOST_NESTED + 1][ENDS * ENDS];

        int fewestLetters(int[] pins, int rows) {
            if (rows < 0 || rows > MOST_ROWS || rows > pins.length) {
                return 0;
            }
            for (int depth = 0; depth <= MOST_NESTED; depth++) {
                for (int from = rows; from >= 0; from--) {
                    fillFrom(depth, from, pins, rows);
                }
            }
            return fewest[MOST_NESTED][rows];
        }

        private void fillFrom(int depth, int from, int[] pins, int rows) {
            int[] table = fewest[depth];
            table[from * ENDS + from] = 0;
            if (from >= rows) {
                return;
            }
            int own = lettersOf(pins[from]);
            for (int to = from + 1; to <= rows; to++) {
                table[from * ENDS + to] = own + table[(from + 1) * ENDS + to];
            }
            for (int length = 1; depth > 0 && from + 2 * length <= rows; length++) {
                int part = AGAIN_LETTERS + fewest[depth - 1][from * ENDS + from + length];
                int times = timesTold(from, length, pins, rows);
                for (int end = from + 2 * length; end <= from + times * length; end += length) {
                    beginWithPart(table, from, end, part, rows);
                }
            }
        }

        private void beginWithPart(int[] table, int from, int end, int part, int rows) {
            for (int to = end; to <= rows; to++) {
                int sum = part + table[end * ENDS + to];
                if (sum < table[from * ENDS + to]) {
                    table[from * ENDS + to] = sum;
                }
            }
        }

        /** How often so many rows stand one behind the other, 9 times at most. */
        private int timesTold(int from, int length, int[] pins, int rows) {
            int alike = 0;
            int most = Math.min(rows - from - length, (MOST_TIMES - 1) * length);
            while (alike < most && pins[from + alike] == pins[from + alike + length]) {
                alike++;
            }
            return length > 0 ? 1 + alike / length : 1;
        }

        private static int lettersOf(int set) {
            int bells = Integer.bitCount(set);
            return bells < 2 ? 1 : bells + 2;
        }
    }

    /** The fewest people who can ring without a drum. */
    private static final class Parting {
        private final int[] clash = new int[MOST_BELLS];
        private final int[] groups = new int[MOST_BELLS];
        private int bells;
        private int fewest;

        int fewestPeople(int[] pins, Tower tower) {
            bells = tower.bells;
            fewest = bells;
            Arrays.fill(clash, 0);
            Arrays.fill(groups, 0);
            for (int row = 0; row < tower.rows; row++) {
                for (int b = 0; b < bells; b++) {
                    if ((pins[row] >> b & 1) == 1) {
                        clash[b] |= pins[row] & ~(1 << b);
                    }
                }
            }
            partFrom(0, 0);
            return fewest;
        }

        /** Tries all ways to part the bells from b on, those ahead being parted between so many people. */
        private void partFrom(int b, int people) {
            if (people >= fewest) {
                return;
            }
            if (b >= bells || b >= MOST_BELLS) {
                fewest = people;
                return;
            }
            for (int g = 0; g <= people && g < MOST_BELLS; g++) {
                if ((groups[g] & clash[b]) == 0) {
                    groups[g] |= 1 << b;
                    partFrom(b + 1, Math.max(people, g + 1));
                    groups[g] &= ~(1 << b);
                }
            }
        }
    }
}
