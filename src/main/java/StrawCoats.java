import java.util.Arrays;

/** A straw roof, what water, years, age and fire do to it, and a history of laying it. */
public final class StrawCoats {
    public static final int UNKNOWN = -1, BAD = -2, LATE = -3, FULL = -4, NONE = -9;

    private static final int MOST_SIDE = 6;
    /**
     * A cell is told as 10 * column + row, and is held by that number too: the gap of four numbers
     * between two columns keeps what is shifted by rows from running into another column, and all
     * cells still fit into the bits of one long.
     */
    private static final int CELLS = 60;
    private static final int COLUMN_STEP = 10;
    private static final int MOST_BUNDLES = 40;
    private static final int MOST_LENGTH = 3;
    private static final int MOST_THICKNESS = 9;
    private static final int SORTS = 6;
    private static final int MOST_YEARS = 99;
    private static final int MOST_STRIPPED = 9;
    private static final int MOST_BOUND = 999;
    private static final int MOST_PRICE = 99;
    private static final int SLOTS = 2;
    private static final int OFF = 100;
    private static final int TURNS_LEFT = 1, TURNS_RIGHT = 2;

    private final Frame frame = new Frame();
    private final Coats coats = new Coats(frame);
    private final Coats firstSlot = new Coats(frame);
    private final Coats secondSlot = new Coats(frame);
    private final Coats offered = new Coats(frame);
    private final boolean[] isKept = new boolean[SLOTS];
    private final Rain rain = new Rain(frame);
    private final Trial trial = new Trial(frame, rain);
    private final Ages ages = new Ages(coats);
    private final Text text = new Text();

    public StrawCoats() {
    }

    // ---- the roof

    public int roof(int columns, int rows) {
        if (!isWithin(columns, 1, MOST_SIDE) || !isWithin(rows, 1, MOST_SIDE)) {
            return BAD;
        }
        frame.raise(columns, rows);
        coats.bare();
        for (int slot = 0; slot < SLOTS; slot++) {
            isKept[slot] = false;
        }
        return frame.size;
    }

    public int pitch(int p) {
        if (!isWithin(p, 1, 3)) {
            return BAD;
        }
        int was = frame.steepness;
        frame.steepness = p;
        return was;
    }

    public int wear(int column, int row, int v) {
        if (!frame.hasCell(column, row)) {
            return UNKNOWN;
        }
        if (!isWithin(v, 1, 3)) {
            return BAD;
        }
        int cell = cellOf(column, row);
        int was = frame.wearing[cell];
        frame.wearing[cell] = v;
        return was;
    }

    public int opening(int column, int row, int v) {
        if (!frame.hasCell(column, row)) {
            return UNKNOWN;
        }
        if (!isWithin(v, 0, TURNS_RIGHT)) {
            return BAD;
        }
        int cell = cellOf(column, row);
        if (coats.lying[cell] != 0) {
            return LATE;
        }
        int was = frame.turning[cell];
        frame.turning[cell] = v;
        return was;
    }

    public int lay(int column, int row, int length, int sort, int thickness) {
        if (!frame.hasCell(column, row) || !isSort(sort)) {
            return UNKNOWN;
        }
        if (!isLength(length) || !isThickness(thickness)) {
            return BAD;
        }
        if (frame.isOpening(cellOf(column, row))) {
            return LATE;
        }
        return coats.add(column, row, length, sort, thickness);
    }

    public int strip(int column, int k) {
        if (!frame.hasColumn(column)) {
            return UNKNOWN;
        }
        if (!isWithin(k, 1, MOST_STRIPPED)) {
            return BAD;
        }
        return coats.removeGreatest(column, k);
    }

    public int about(int bundle, int what) {
        if (!coats.wasLaid(bundle)) {
            return UNKNOWN;
        }
        switch (what) {
            case 0:
                return coats.columns[bundle];
            case 1:
                return coats.rows[bundle];
            case 2:
                return coats.lengths[bundle];
            case 3:
                return coats.sorts[bundle];
            case 4:
                return coats.thicknesses[bundle];
            case 5:
                return coats.remainsOf(bundle);
            default:
                return BAD;
        }
    }

    public int left(int bundle, int row) {
        if (!coats.wasLaid(bundle) || !frame.hasRow(row)) {
            return UNKNOWN;
        }
        return coats.remains[bundle * MOST_SIDE + row];
    }

    public int top(int column, int row) {
        if (!frame.hasCell(column, row)) {
            return UNKNOWN;
        }
        return greatest(coats.lying[cellOf(column, row)]);
    }

    public int depth(int column, int row, int what) {
        if (!frame.hasCell(column, row)) {
            return UNKNOWN;
        }
        switch (what) {
            case 0:
                return Long.bitCount(coats.lying[cellOf(column, row)]);
            case 1:
                return coats.thicknessAt(cellOf(column, row));
            default:
                return BAD;
        }
    }

    // ---- water

    public int drop(int column, int row) {
        if (!frame.hasCell(column, row)) {
            return UNKNOWN;
        }
        return rain.follow(coats.lying, cellOf(column, row));
    }

    public int way(int column, int row, int i) {
        if (!frame.hasCell(column, row)) {
            return UNKNOWN;
        }
        rain.follow(coats.lying, cellOf(column, row));
        return isWithin(i, 0, rain.passed - 1) ? rain.places[i] : NONE;
    }

    public int wet(int column, int row) {
        if (!frame.hasCell(column, row)) {
            return UNKNOWN;
        }
        return rain.countIn(coats.lying, cellOf(column, row));
    }

    public int dry() {
        return rain.firstWet(coats.lying) == NONE ? 1 : 0;
    }

    public int off(int column) {
        if (!frame.hasColumn(column)) {
            return UNKNOWN;
        }
        return rain.countOff(coats.lying, column);
    }

    // ---- years

    public int years(int n) {
        if (!isWithin(n, 1, MOST_YEARS)) {
            return BAD;
        }
        int lost = 0;
        for (int year = 0; year < n; year++) {
            lost += coats.weather();
        }
        return lost;
    }

    public int leaks() {
        return trial.firstLeak(coats);
    }

    public int leakAt() {
        trial.firstLeak(coats);
        return trial.leakCell;
    }

    public int weight(int column) {
        if (!frame.hasColumn(column)) {
            return UNKNOWN;
        }
        return coats.weigh(column);
    }

    public int heavy(int column, int bound) {
        if (!frame.hasColumn(column)) {
            return UNKNOWN;
        }
        if (!isWithin(bound, 0, MOST_BOUND)) {
            return BAD;
        }
        return coats.tooMany(column, bound);
    }

    public int fewest(int column, int length) {
        if (!frame.hasColumn(column)) {
            return UNKNOWN;
        }
        if (!isLength(length)) {
            return BAD;
        }
        return trial.leastWay(coats.lying, column, length);
    }

    public int proof(int column, int length, int way) {
        if (!frame.hasColumn(column)) {
            return UNKNOWN;
        }
        if (!isLength(length) || !isWithin(way, 0, (1 << frame.rows) - 1)) {
            return BAD;
        }
        return trial.isProof(coats.lying, column, length, way) ? 1 : 0;
    }

    // ---- when

    public int grew(int sort, int from, int to) {
        if (!isSort(sort)) {
            return UNKNOWN;
        }
        if (!isWithin(from, 0, MOST_YEARS) || !isWithin(to, from, MOST_YEARS)) {
            return BAD;
        }
        int was = 100 * ages.from[sort] + ages.to[sort];
        ages.from[sort] = from;
        ages.to[sort] = to;
        return was;
    }

    public int over(int bundle, int other) {
        if (!coats.wasLaid(bundle) || !coats.wasLaid(other)) {
            return UNKNOWN;
        }
        return coats.liesOver(bundle, other) ? 1 : 0;
    }

    public int when(int bundle, boolean late) {
        if (!coats.wasLaid(bundle)) {
            return UNKNOWN;
        }
        if (coats.remainsOf(bundle) == 0) {
            return LATE;
        }
        if (ages.firstWrong() != NONE) {
            return NONE;
        }
        return late ? ages.latest(bundle) : ages.years[bundle];
    }

    public int wrong() {
        return ages.firstWrong();
    }

    public long ways(int column) {
        if (!frame.hasColumn(column)) {
            return UNKNOWN;
        }
        return ages.countWays(column);
    }

    // ---- fire, offers

    public int burnt(int column, int row, int wind) {
        if (!frame.hasCell(column, row)) {
            return UNKNOWN;
        }
        if (!isWind(wind)) {
            return BAD;
        }
        return Long.bitCount(Fire.spread(coats.strawCells(), cellOf(column, row), wind));
    }

    public int worst(int wind) {
        return isWind(wind) ? Fire.worstSpark(coats.strawCells(), wind) : BAD;
    }

    public int clear(int wind) {
        return isWind(wind) ? Fire.bestCleared(coats.strawCells(), wind) : BAD;
    }

    public int offer(int bundle, int unit, int length, int thickness, int years) {
        if (!isWithin(bundle, 0, MOST_PRICE) || !isWithin(unit, 0, MOST_PRICE)
                || !isLength(length) || !isThickness(thickness) || !isWithin(years, 1, MOST_YEARS)) {
            return BAD;
        }
        offered.bare();
        for (int column = 0; column < frame.columns; column++) {
            int way = trial.leastWay(offered.lying, column, length);
            if (way == NONE) {
                return NONE;
            }
            offered.addAll(column, way, length, thickness);
        }
        int lasts = trial.firstLeak(offered);
        if (lasts == 0) {
            return NONE;
        }
        int layings = lasts > 0 ? (years + lasts - 1) / lasts : 1;
        return layings * offered.laid * (bundle + unit * thickness);
    }

    // ---- history

    public int write(int n, long v) {
        if (!isWithin(n, 1, 8)) {
            return BAD;
        }
        return text.append(n, v);
    }

    public int wipe() {
        int was = text.length;
        text.length = 0;
        return was;
    }

    public int fault() {
        return text.firstFault(frame);
    }

    public int done() {
        if (text.firstFault(frame) != NONE) {
            return LATE;
        }
        int parts = 0;
        for (int at = 0; at < text.length && carryOut(at); at += 1 + Text.figuresOf(text.bytes[at])) {
            parts++;
        }
        return parts;
    }

    /** Does the part of a faultless text that begins there; false if it can not be done. */
    private boolean carryOut(int at) {
        int first = text.figure(at + 1);
        switch (text.bytes[at]) {
            case 'B':
                return lay(first, text.figure(at + 2), text.figure(at + 3), text.figure(at + 4),
                        text.figure(at + 5)) >= 0;
            case 'Y':
                return years(first) >= 0;
            default:
                return strip(first, text.figure(at + 2)) >= 0;
        }
    }

    public int keep(int slot) {
        if (!isSlot(slot)) {
            return UNKNOWN;
        }
        coatsOf(slot).become(coats);
        isKept[slot] = true;
        return coats.laid;
    }

    public int again(int slot) {
        if (!isSlot(slot)) {
            return UNKNOWN;
        }
        if (!isKept[slot] || coatsOf(slot).lieOnOpening()) {
            return LATE;
        }
        coats.become(coatsOf(slot));
        return coats.laid;
    }

    public int count(int what) {
        switch (what) {
            case 0:
                return frame.columns;
            case 1:
                return frame.rows;
            case 2:
                return coats.laid;
            case 3:
                return coats.countRemaining();
            case 4:
                return frame.countOpenings();
            case 5:
                return text.length;
            default:
                return BAD;
        }
    }

    // ---- what several parts use

    private Coats coatsOf(int slot) {
        return slot == 0 ? firstSlot : secondSlot;
    }

    private static boolean isSlot(int slot) {
        return isWithin(slot, 0, SLOTS - 1);
    }

    private static boolean isSort(int sort) {
        return isWithin(sort, 0, SORTS - 1);
    }

    private static boolean isLength(int length) {
        return isWithin(length, 1, MOST_LENGTH);
    }

    private static boolean isThickness(int thickness) {
        return isWithin(thickness, 1, MOST_THICKNESS);
    }

    private static boolean isWind(int wind) {
        return isWithin(wind, 0, 4);
    }

    private static boolean isWithin(int v, int least, int most) {
        return v >= least && v <= most;
    }

    private static int cellOf(int column, int row) {
        return COLUMN_STEP * column + row;
    }

    private static int columnOf(int cell) {
        return cell / COLUMN_STEP;
    }

    private static int rowOf(int cell) {
        return cell % COLUMN_STEP;
    }

    /** The greatest number in a set of numbers held as bits; NONE of an empty one. */
    private static int greatest(long set) {
        long filled = set;
        for (int shift = 1; shift < 64; shift += shift) {
            filled |= filled >>> shift;
        }
        return filled == 0 ? NONE : Long.bitCount(filled) - 1;
    }

    private static boolean isIn(long set, int number) {
        return (set >>> number & 1L) != 0;
    }

    /** The cells of the roof with their wear and openings, and its pitch. */
    private static final class Frame {
        int columns;
        int rows;
        int steepness = 2;
        int size;
        /** All cells, column by column, rows upward. */
        final int[] cells = new int[MOST_SIDE * MOST_SIDE];
        final int[] wearing = new int[CELLS];
        final int[] turning = new int[CELLS];

        Frame() {
            raise(4, 4);
        }

        void raise(int newColumns, int newRows) {
            columns = newColumns;
            rows = newRows;
            size = 0;
            for (int column = 0; column < columns; column++) {
                for (int row = 0; row < rows; row++) {
                    cells[size++] = cellOf(column, row);
                }
            }
            Arrays.fill(wearing, 1);
            Arrays.fill(turning, 0);
        }

        boolean hasColumn(int column) {
            return isWithin(column, 0, columns - 1);
        }

        boolean hasRow(int row) {
            return isWithin(row, 0, rows - 1);
        }

        boolean hasCell(int column, int row) {
            return hasColumn(column) && hasRow(row);
        }

        boolean isOpening(int cell) {
            return turning[cell] != 0;
        }

        int countOpenings() {
            int openings = 0;
            for (int i = 0; i < size; i++) {
                if (isOpening(cells[i])) {
                    openings++;
                }
            }
            return openings;
        }

        int lap() {
            return steepness == 1 ? 2 : 1;
        }

        /** The lowest row on which a bundle laid there comes to lie. */
        int lowestRow(int column, int row, int length) {
            int lowest = row;
            for (int next = row - 1; next >= 0 && next > row - length; next--) {
                if (isOpening(cellOf(column, next))) {
                    return lowest;
                }
                lowest = next;
            }
            return lowest;
        }
    }

    /** All bundles that were laid, and what is left of them. */
    private static final class Coats {
        private final Frame frame;
        int laid;
        final int[] columns = new int[MOST_BUNDLES];
        final int[] rows = new int[MOST_BUNDLES];
        final int[] lengths = new int[MOST_BUNDLES];
        final int[] sorts = new int[MOST_BUNDLES];
        final int[] thicknesses = new int[MOST_BUNDLES];
        /** By bundle and row. */
        final int[] remains = new int[MOST_BUNDLES * MOST_SIDE];
        /** Of each cell the bundles that lie on it, as bits: those of which something remains there. */
        final long[] lying = new long[CELLS];
        /** How often a bundle ceased to lie on a cell: while this stays, drops go as they went. */
        int holes;

        Coats(Frame frame) {
            this.frame = frame;
        }

        void bare() {
            laid = 0;
            Arrays.fill(remains, 0);
            Arrays.fill(lying, 0L);
        }

        void become(Coats model) {
            laid = model.laid;
            System.arraycopy(model.columns, 0, columns, 0, MOST_BUNDLES);
            System.arraycopy(model.rows, 0, rows, 0, MOST_BUNDLES);
            System.arraycopy(model.lengths, 0, lengths, 0, MOST_BUNDLES);
            System.arraycopy(model.sorts, 0, sorts, 0, MOST_BUNDLES);
            System.arraycopy(model.thicknesses, 0, thicknesses, 0, MOST_BUNDLES);
            System.arraycopy(model.remains, 0, remains, 0, MOST_BUNDLES * MOST_SIDE);
            System.arraycopy(model.lying, 0, lying, 0, CELLS);
        }

        int add(int column, int row, int length, int sort, int thickness) {
            if (laid >= MOST_BUNDLES) {
                return FULL;
            }
            int bundle = laid++;
            columns[bundle] = column;
            rows[bundle] = row;
            lengths[bundle] = length;
            sorts[bundle] = sort;
            thicknesses[bundle] = thickness;
            for (int at = frame.lowestRow(column, row, length); at <= row; at++) {
                remains[bundle * MOST_SIDE + at] = thickness;
                lying[cellOf(column, at)] |= 1L << bundle;
            }
            return bundle;
        }

        /** Lays a bundle on each row of a way, from the eaves up. */
        void addAll(int column, int way, int length, int thickness) {
            for (int row = 0; row < frame.rows; row++) {
                if (isIn(way, row)) {
                    add(column, row, length, 0, thickness);
                }
            }
        }

        boolean wasLaid(int bundle) {
            return isWithin(bundle, 0, laid - 1);
        }

        int remainsOf(int bundle) {
            int sum = 0;
            for (int row = 0; row < MOST_SIDE; row++) {
                sum += remains[bundle * MOST_SIDE + row];
            }
            return sum;
        }

        int countRemaining() {
            int remaining = 0;
            for (int bundle = 0; bundle < laid; bundle++) {
                if (remainsOf(bundle) > 0) {
                    remaining++;
                }
            }
            return remaining;
        }

        int thicknessAt(int cell) {
            int sum = 0;
            for (int bundle = 0; bundle < laid; bundle++) {
                if (isIn(lying[cell], bundle)) {
                    sum += remains[bundle * MOST_SIDE + rowOf(cell)];
                }
            }
            return sum;
        }

        int weigh(int column) {
            int sum = 0;
            for (int row = 0; row < frame.rows; row++) {
                sum += thicknessAt(cellOf(column, row));
            }
            return sum;
        }

        /** The bundles that lie in a column anywhere, as bits. */
        long inColumn(int column) {
            long bundles = 0;
            for (int row = 0; row < frame.rows; row++) {
                bundles |= lying[cellOf(column, row)];
            }
            return bundles;
        }

        /** The cells that have straw, as bits. */
        long strawCells() {
            long straw = 0;
            for (int i = 0; i < frame.size; i++) {
                if (lying[frame.cells[i]] != 0) {
                    straw |= 1L << frame.cells[i];
                }
            }
            return straw;
        }

        boolean lieOnOpening() {
            for (int i = 0; i < frame.size; i++) {
                if (lying[frame.cells[i]] != 0 && frame.isOpening(frame.cells[i])) {
                    return true;
                }
            }
            return false;
        }

        boolean liesOver(int upper, int lower) {
            if (upper <= lower) {
                return false;
            }
            long both = 1L << upper | 1L << lower;
            for (int row = 0; row < frame.rows; row++) {
                if ((lying[cellOf(columns[upper], row)] & both) == both) {
                    return true;
                }
            }
            return false;
        }

        /** Takes away as many of the greatest bundles in a column, or all there are: how many. */
        int removeGreatest(int column, int many) {
            for (int gone = 0; gone < many; gone++) {
                int bundle = greatest(inColumn(column));
                if (bundle == NONE) {
                    return gone;
                }
                for (int row = 0; row < frame.rows; row++) {
                    lose(bundle, cellOf(column, row), MOST_THICKNESS);
                }
            }
            return many;
        }

        /** How many of the greatest bundles in a column weigh too much by a bound. */
        int tooMany(int column, int bound) {
            int weight = weigh(column);
            long bundles = inColumn(column);
            int many = 0;
            for (int bundle = laid - 1; bundle >= 0 && weight > bound; bundle--) {
                if (isIn(bundles, bundle)) {
                    weight -= remainsOf(bundle);
                    many++;
                }
            }
            return many;
        }

        /** Lets a year go by: how much straw was lost. */
        int weather() {
            int lost = 0;
            for (int i = 0; i < frame.size; i++) {
                int cell = frame.cells[i];
                int bundle = greatest(lying[cell]);
                if (bundle != NONE) {
                    lost += lose(bundle, cell, frame.wearing[cell]);
                }
            }
            return lost;
        }

        /** A bundle loses so much at a cell, or what remains: how much. */
        private int lose(int bundle, int cell, int much) {
            int at = bundle * MOST_SIDE + rowOf(cell);
            int loss = Math.min(much, remains[at]);
            remains[at] -= loss;
            if (loss > 0 && remains[at] == 0) {
                lying[cell] &= ~(1L << bundle);
                holes++;
            }
            return loss;
        }
    }

    /** Follows drops over bundles told by the cells they lie on. */
    private static final class Rain {
        /** Stands for a bundle where a drop is at an opening: places there are told with it. */
        private static final int AT_OPENING = 99;
        /** No way is longer: in each of six rows six openings at most and one cell with straw. */
        private static final int MOST_PLACES = 64;

        private final Frame frame;
        final int[] places = new int[MOST_PLACES];
        int passed;
        private boolean runs;
        private int end;
        private int eavesColumn;
        private int cell;
        private int bundle;
        private long turnedAt;

        Rain(Frame frame) {
            this.frame = frame;
        }

        /** Where a drop on a cell ends: the cell at which it is in, or OFF. */
        int follow(long[] lying, int start) {
            passed = 0;
            runs = true;
            eavesColumn = NONE;
            turnedAt = 0;
            fall(lying, start);
            for (int step = 0; runs && step < MOST_PLACES; step++) {
                if (bundle != AT_OPENING) {
                    run(lying);
                } else if (frame.hasColumn(columnBeside())) {
                    fall(lying, cellOf(columnBeside(), rowOf(cell)));
                } else {
                    finish(OFF);
                }
            }
            return end;
        }

        private void fall(long[] lying, int at) {
            int onto = greatest(lying[at]);
            if (frame.isOpening(at)) {
                meetOpening(at);
            } else if (onto == NONE) {
                finish(at);
            } else {
                pass(at, onto);
            }
        }

        private int columnBeside() {
            return frame.turning[cell] == TURNS_LEFT ? columnOf(cell) - 1 : columnOf(cell) + 1;
        }

        private void run(long[] lying) {
            if (rowOf(cell) == 0) {
                eavesColumn = columnOf(cell);
                finish(OFF);
                return;
            }
            int below = cell - 1;
            if (frame.isOpening(below)) {
                meetOpening(below);
                return;
            }
            if (isIn(lying[below], bundle)) {
                pass(below, bundle);
                return;
            }
            int next = greatest(lying[below] & (1L << bundle) - 1);
            if (next == NONE || !isLapped(lying, below, next)) {
                finish(below);
            } else {
                pass(below, next);
            }
        }

        /** Whether a bundle reaches far enough above a cell to take what comes down there. */
        private boolean isLapped(long[] lying, int below, int lower) {
            for (int up = 1; up <= frame.lap(); up++) {
                int above = below + up;
                if (rowOf(above) < frame.rows && !frame.isOpening(above) && !isIn(lying[above], lower)) {
                    return false;
                }
            }
            return true;
        }

        private void meetOpening(int at) {
            if (isIn(turnedAt, at)) {
                finish(at);
                return;
            }
            turnedAt |= 1L << at;
            pass(at, AT_OPENING);
        }

        private void pass(int at, int on) {
            cell = at;
            bundle = on;
            if (passed < MOST_PLACES) {
                places[passed++] = 100 * on + at;
            }
        }

        private void finish(int at) {
            end = at;
            runs = false;
        }

        int countIn(long[] lying, int at) {
            int drops = 0;
            for (int i = 0; i < frame.size; i++) {
                if (follow(lying, frame.cells[i]) == at) {
                    drops++;
                }
            }
            return drops;
        }

        int countOff(long[] lying, int column) {
            int drops = 0;
            for (int i = 0; i < frame.size; i++) {
                follow(lying, frame.cells[i]);
                if (eavesColumn == column) {
                    drops++;
                }
            }
            return drops;
        }

        /** The first cell, column by column, at which a drop goes in; NONE if the roof is dry. */
        int firstWet(long[] lying) {
            int first = OFF;
            for (int i = 0; i < frame.size; i++) {
                first = Math.min(first, follow(lying, frame.cells[i]));
            }
            return first == OFF ? NONE : first;
        }
    }

    /** What is only asked: leaks to come and ways to lay a column, on bundles of its own. */
    private static final class Trial {
        private final Frame frame;
        private final Rain rain;
        private final Coats worn;
        private final long[] lying = new long[CELLS];
        int leakCell = NONE;

        Trial(Frame frame, Rain rain) {
            this.frame = frame;
            this.rain = rain;
            worn = new Coats(frame);
        }

        /** After how many years bundles leak first, and leakCell by it; NONE if they do not. */
        int firstLeak(Coats bundles) {
            worn.become(bundles);
            leakCell = NONE;
            int holesSeen = worn.holes - 1;
            for (int year = 0; year <= MOST_YEARS; year++) {
                if (worn.holes != holesSeen) {
                    holesSeen = worn.holes;
                    leakCell = rain.firstWet(worn.lying);
                }
                if (leakCell != NONE) {
                    return year;
                }
                worn.weather();
            }
            return NONE;
        }

        boolean isProof(long[] others, int column, int length, int way) {
            System.arraycopy(others, 0, lying, 0, CELLS);
            for (int row = 0; row < frame.rows; row++) {
                lying[cellOf(column, row)] = 0;
            }
            for (int row = 0; row < frame.rows; row++) {
                if (!isIn(way, row)) {
                    continue;
                }
                if (frame.isOpening(cellOf(column, row))) {
                    return false;
                }
                // a drop asks of two bundles only which came first: the row tells that as well
                for (int at = frame.lowestRow(column, row, length); at <= row; at++) {
                    lying[cellOf(column, at)] |= 1L << row;
                }
            }
            for (int row = 0; row < frame.rows; row++) {
                int end = rain.follow(lying, cellOf(column, row));
                if (end != OFF && columnOf(end) == column) {
                    return false;
                }
            }
            return true;
        }

        int leastWay(long[] others, int column, int length) {
            int best = NONE;
            int fewestBundles = MOST_SIDE + 1;
            for (int way = 0; way < 1 << frame.rows; way++) {
                if (Long.bitCount(way) < fewestBundles && isProof(others, column, length, way)) {
                    best = way;
                    fewestBundles = Long.bitCount(way);
                }
            }
            return best;
        }
    }

    /** In which years the bundles can have been laid. */
    private static final class Ages {
        private static final int MOST_COUNTED = 5;
        private static final int LONGEST_COUNTED = 10;

        private final Coats coats;
        final int[] from = new int[SORTS];
        final int[] to = new int[SORTS];
        /** Of each bundle its earliest or latest year, as was asked last. */
        final int[] years = new int[MOST_BUNDLES];
        private final int[] counted = new int[MOST_COUNTED];
        /** Of each counted bundle those it lies over, as bits. */
        private final int[] beneath = new int[MOST_COUNTED];
        private final long[] given = new long[1 << MOST_COUNTED];

        Ages(Coats coats) {
            this.coats = coats;
            Arrays.fill(to, MOST_YEARS);
        }

        private int firstYear(int bundle) {
            return from[coats.sorts[bundle]];
        }

        private int lastYear(int bundle) {
            return to[coats.sorts[bundle]];
        }

        /** The first bundle that can have no year; if there is NONE, years are the earliest ones. */
        int firstWrong() {
            for (int bundle = 0; bundle < coats.laid; bundle++) {
                int earliest = firstYear(bundle);
                for (int lower = 0; lower < bundle; lower++) {
                    if (coats.liesOver(bundle, lower)) {
                        earliest = Math.max(earliest, years[lower]);
                    }
                }
                if (earliest > lastYear(bundle)) {
                    return bundle;
                }
                years[bundle] = earliest;
            }
            return NONE;
        }

        /** The latest year of a bundle, where none is wrong. */
        int latest(int asked) {
            for (int bundle = coats.laid - 1; bundle >= asked; bundle--) {
                int last = lastYear(bundle);
                for (int upper = bundle + 1; upper < coats.laid; upper++) {
                    if (coats.liesOver(upper, bundle)) {
                        last = Math.min(last, years[upper]);
                    }
                }
                years[bundle] = last;
            }
            return years[asked];
        }

        long countWays(int column) {
            long bundles = coats.inColumn(column);
            if (Long.bitCount(bundles) > MOST_COUNTED) {
                return LATE;
            }
            int many = 0;
            for (int bundle = 0; bundle < coats.laid && many < MOST_COUNTED; bundle++) {
                if (isIn(bundles, bundle)) {
                    if (lastYear(bundle) - firstYear(bundle) >= LONGEST_COUNTED) {
                        return LATE;
                    }
                    counted[many++] = bundle;
                }
            }
            findBeneath(many);
            Arrays.fill(given, 0L);
            given[0] = 1;
            for (int year = 0; year <= MOST_YEARS; year++) {
                giveYear(year, many);
            }
            return given[(1 << many) - 1];
        }

        private void findBeneath(int many) {
            for (int upper = 0; upper < many; upper++) {
                beneath[upper] = 0;
                for (int lower = 0; lower < upper; lower++) {
                    if (coats.liesOver(counted[upper], counted[lower])) {
                        beneath[upper] |= 1 << lower;
                    }
                }
            }
        }

        /**
         * given: in how many ways a set of bundles, and none other, has years up to this one. Greater
         * sets come first, so that what they are made from is still that of the year before.
         */
        private void giveYear(int year, int many) {
            int grown = 0;
            for (int k = 0; k < many; k++) {
                if (isWithin(year, firstYear(counted[k]), lastYear(counted[k]))) {
                    grown |= 1 << k;
                }
            }
            for (int set = (1 << many) - 1; set > 0 && grown != 0; set--) {
                if (!isClosed(set, many)) {
                    continue;
                }
                for (int added = 1; added <= set; added++) {
                    if ((added & set & grown) == added) {
                        given[set] += given[set ^ added];
                    }
                }
            }
        }

        /** Whether a set has with each bundle those it lies over: they can not come later. */
        private boolean isClosed(int set, int many) {
            for (int k = 0; k < many; k++) {
                if (isIn(set, k) && (beneath[k] & set) != beneath[k]) {
                    return false;
                }
            }
            return true;
        }
    }

    /** Fire over cells that have straw, held as bits: rows lie 1 apart, columns COLUMN_STEP. */
    private static final class Fire {
        /** How far a wind carries fire at once; below 0 to lesser numbers. */
        private static final int[] CARRIES = {0, 2 * COLUMN_STEP, 2, -2 * COLUMN_STEP, -2};

        private Fire() {
        }

        /** The cells that burn by a spark. */
        static long spread(long straw, int spark, int wind) {
            int carried = CARRIES[wind];
            long burning = straw & 1L << spark;
            for (int round = 0; round < MOST_SIDE * MOST_SIDE; round++) {
                long caught = burning << 1 | burning >>> 1
                        | burning << COLUMN_STEP | burning >>> COLUMN_STEP
                        | (carried < 0 ? burning >>> -carried : burning << carried);
                long next = burning | caught & straw;
                if (next == burning) {
                    return burning;
                }
                burning = next;
            }
            return burning;
        }

        static int worstSpark(long straw, int wind) {
            int worst = NONE;
            int most = 0;
            long burntAlready = 0;
            for (int cell = 0; cell < CELLS; cell++) {
                // what burnt by an earlier spark burns no more cells by its own
                if (isIn(straw & ~burntAlready, cell)) {
                    long burning = spread(straw, cell, wind);
                    burntAlready |= burning;
                    if (Long.bitCount(burning) > most) {
                        most = Long.bitCount(burning);
                        worst = cell;
                    }
                }
            }
            return worst;
        }

        static int bestCleared(long straw, int wind) {
            int best = NONE;
            int least = CELLS;
            for (int cell = 0; cell < CELLS; cell++) {
                if (isIn(straw, cell)) {
                    long rest = straw & ~(1L << cell);
                    int spark = worstSpark(rest, wind);
                    int burns = spark == NONE ? 0 : Long.bitCount(spread(rest, spark, wind));
                    if (burns < least) {
                        least = burns;
                        best = cell;
                    }
                }
            }
            return best;
        }
    }

    /** The text of a history. */
    private static final class Text {
        private static final int MOST_BYTES = 60;

        final int[] bytes = new int[MOST_BYTES];
        int length;

        int append(int n, long v) {
            if (length + n > MOST_BYTES) {
                return FULL;
            }
            for (int i = n - 1; i >= 0; i--) {
                bytes[length++] = (int) (v >>> 8 * i & 255L);
            }
            return length;
        }

        /** The figure at a byte; 0 beyond the text. */
        int figure(int at) {
            return isWithin(at, 0, length - 1) ? bytes[at] - '0' : 0;
        }

        /** How many figures a part has; 0: no part begins so. */
        static int figuresOf(int kind) {
            switch (kind) {
                case 'B':
                    return 5;
                case 'Y':
                    return 1;
                case 'S':
                    return 2;
                default:
                    return 0;
            }
        }

        int firstFault(Frame frame) {
            for (int part = 0; part < length; part += 1 + figuresOf(bytes[part])) {
                int at = faultOfPart(frame, part);
                if (at != NONE) {
                    return at;
                }
            }
            return NONE;
        }

        private int faultOfPart(Frame frame, int part) {
            int figures = figuresOf(bytes[part]);
            if (figures == 0) {
                return part;
            }
            for (int k = 1; k <= figures; k++) {
                if (part + k >= length) {
                    return length;
                }
                if (!fits(frame, bytes[part], k, figure(part + k))) {
                    return part + k;
                }
            }
            return NONE;
        }

        /** Whether a figure may be the k-th one of a part. */
        private static boolean fits(Frame frame, int kind, int k, int figure) {
            if (kind == 'Y' || kind == 'S' && k == 2) {
                return isWithin(figure, 1, 9);
            }
            switch (k) {
                case 1:
                    return frame.hasColumn(figure);
                case 2:
                    return frame.hasRow(figure);
                case 3:
                    return isLength(figure);
                case 4:
                    return isSort(figure);
                default:
                    return isThickness(figure);
            }
        }
    }
}
