import java.util.ArrayDeque;
import java.util.ArrayList;
import java.util.Deque;
import java.util.HashSet;
import java.util.List;
import java.util.Map;
import java.util.Set;
import java.util.TreeMap;
import java.util.regex.Matcher;
import java.util.regex.Pattern;

/**
 * The document once more, as slowly and as near to its words as can be: each question is answered
 * by doing what it asks for on a copy. AgainstPlainTest holds StrawCoats against it.
 */
public final class PlainRoof {
    private static final int UNKNOWN = -1, BAD = -2, LATE = -3, FULL = -4, NONE = -9, OFF = 100;

    private static final class Bundle {
        final int number, column, row, length, sort, thickness;
        final Map<Integer, Integer> left = new TreeMap<>();

        Bundle(int number, int column, int row, int length, int sort, int thickness) {
            this.number = number;
            this.column = column;
            this.row = row;
            this.length = length;
            this.sort = sort;
            this.thickness = thickness;
        }

        Bundle copy() {
            Bundle b = new Bundle(number, column, row, length, sort, thickness);
            b.left.putAll(left);
            return b;
        }

        boolean liesOn(int c, int r) {
            return column == c && left.containsKey(r);
        }

        int all() {
            return left.values().stream().mapToInt(v -> v).sum();
        }
    }

    private int columns = 4, rows = 4, pitch = 2;
    private int[][] wear = ones();
    private int[][] opening = new int[6][6];
    private List<Bundle> bundles = new ArrayList<>();
    private final int[] from = new int[6], to = {99, 99, 99, 99, 99, 99};
    private final List<List<Bundle>> slots = new ArrayList<>(java.util.Arrays.asList(null, null));
    private String text = "";

    private static int[][] ones() {
        int[][] all = new int[6][6];
        for (int[] column : all) {
            java.util.Arrays.fill(column, 1);
        }
        return all;
    }

    private static List<Bundle> copyOf(List<Bundle> some) {
        List<Bundle> copies = new ArrayList<>();
        for (Bundle b : some) {
            copies.add(b.copy());
        }
        return copies;
    }

    private PlainRoof copy() {
        PlainRoof p = new PlainRoof();
        p.columns = columns;
        p.rows = rows;
        p.pitch = pitch;
        p.wear = wear;
        p.opening = opening;
        p.bundles = copyOf(bundles);
        return p;
    }

    private boolean noColumn(int c) {
        return c < 0 || c >= columns;
    }

    private boolean noCell(int c, int r) {
        return noColumn(c) || r < 0 || r >= rows;
    }

    private boolean noBundle(int b) {
        return b < 0 || b >= bundles.size();
    }

    private static boolean not(int v, int low, int high) {
        return v < low || v > high;
    }

    private List<Bundle> on(int c, int r) {
        List<Bundle> some = new ArrayList<>();
        for (Bundle b : bundles) {
            if (b.liesOn(c, r)) {
                some.add(b);
            }
        }
        return some;
    }

    private List<Bundle> in(int c) {
        List<Bundle> some = new ArrayList<>();
        for (Bundle b : bundles) {
            if (b.column == c && !b.left.isEmpty()) {
                some.add(b);
            }
        }
        return some;
    }

    private List<int[]> cells() {
        List<int[]> all = new ArrayList<>();
        for (int c = 0; c < columns; c++) {
            for (int r = 0; r < rows; r++) {
                all.add(new int[] {c, r});
            }
        }
        return all;
    }

    public int roof(int c, int r) {
        if (not(c, 1, 6) || not(r, 1, 6)) {
            return BAD;
        }
        columns = c;
        rows = r;
        wear = ones();
        opening = new int[6][6];
        bundles = new ArrayList<>();
        slots.set(0, null);
        slots.set(1, null);
        return c * r;
    }

    public int pitch(int p) {
        if (not(p, 1, 3)) {
            return BAD;
        }
        int was = pitch;
        pitch = p;
        return was;
    }

    public int wear(int c, int r, int v) {
        if (noCell(c, r)) {
            return UNKNOWN;
        }
        if (not(v, 1, 3)) {
            return BAD;
        }
        int was = wear[c][r];
        wear[c][r] = v;
        return was;
    }

    public int opening(int c, int r, int v) {
        if (noCell(c, r)) {
            return UNKNOWN;
        }
        if (not(v, 0, 2)) {
            return BAD;
        }
        if (!on(c, r).isEmpty()) {
            return LATE;
        }
        int was = opening[c][r];
        opening[c][r] = v;
        return was;
    }

    public int lay(int c, int r, int length, int sort, int thickness) {
        if (noCell(c, r) || not(sort, 0, 5)) {
            return UNKNOWN;
        }
        if (not(length, 1, 3) || not(thickness, 1, 9)) {
            return BAD;
        }
        if (opening[c][r] != 0) {
            return LATE;
        }
        if (bundles.size() == 40) {
            return FULL;
        }
        Bundle b = new Bundle(bundles.size(), c, r, length, sort, thickness);
        for (int k = 0; k < length; k++) {
            if (r - k < 0 || opening[c][r - k] != 0) {
                break;
            }
            b.left.put(r - k, thickness);
        }
        bundles.add(b);
        return b.number;
    }

    public int strip(int c, int k) {
        if (noColumn(c)) {
            return UNKNOWN;
        }
        if (not(k, 1, 9)) {
            return BAD;
        }
        int gone = 0;
        while (gone < k && !in(c).isEmpty()) {
            in(c).get(in(c).size() - 1).left.clear();
            gone++;
        }
        return gone;
    }

    public int about(int bundle, int what) {
        if (noBundle(bundle)) {
            return UNKNOWN;
        }
        if (not(what, 0, 5)) {
            return BAD;
        }
        Bundle b = bundles.get(bundle);
        return new int[] {b.column, b.row, b.length, b.sort, b.thickness, b.all()}[what];
    }

    public int left(int bundle, int r) {
        return noBundle(bundle) || not(r, 0, rows - 1) ? UNKNOWN : bundles.get(bundle).left.getOrDefault(r, 0);
    }

    public int top(int c, int r) {
        if (noCell(c, r)) {
            return UNKNOWN;
        }
        List<Bundle> some = on(c, r);
        return some.isEmpty() ? NONE : some.get(some.size() - 1).number;
    }

    public int depth(int c, int r, int what) {
        if (noCell(c, r)) {
            return UNKNOWN;
        }
        if (not(what, 0, 1)) {
            return BAD;
        }
        return what == 0 ? on(c, r).size() : on(c, r).stream().mapToInt(b -> b.left.get(r)).sum();
    }

    /** The places of a drop's way, and behind them where it ended and by which column's eaves. */
    private final class Course {
        final List<Integer> places = new ArrayList<>();
        final Set<Integer> turned = new HashSet<>();
        int end;
        int eaves = NONE;

        Course(int c, int r) {
            fall(c, r);
        }

        private void fall(int c, int r) {
            if (c < 0 || c >= columns) {
                end = OFF;
            } else if (opening[c][r] != 0) {
                aside(c, r);
            } else if (top(c, r) == NONE) {
                end = 10 * c + r;
            } else {
                run(bundles.get(top(c, r)), r);
            }
        }

        private void aside(int c, int r) {
            if (!turned.add(10 * c + r)) {
                end = 10 * c + r;
                return;
            }
            places.add(9900 + 10 * c + r);
            fall(opening[c][r] == 1 ? c - 1 : c + 1, r);
        }

        private void run(Bundle b, int r) {
            int c = b.column;
            places.add(100 * b.number + 10 * c + r);
            if (b.left.containsKey(r - 1)) {
                run(b, r - 1);
            } else if (r == 0) {
                end = OFF;
                eaves = c;
            } else if (opening[c][r - 1] != 0) {
                aside(c, r - 1);
            } else {
                Bundle next = null;
                for (Bundle o : bundles) {
                    if (o.number < b.number && o.liesOn(c, r - 1)) {
                        next = o;
                    }
                }
                boolean laps = next != null;
                for (int up = r; laps && up < r + (pitch == 1 ? 2 : 1); up++) {
                    laps = up >= rows || opening[c][up] != 0 || next.liesOn(c, up);
                }
                if (laps) {
                    run(next, r - 1);
                } else {
                    end = 10 * c + r - 1;
                }
            }
        }
    }

    public int drop(int c, int r) {
        return noCell(c, r) ? UNKNOWN : new Course(c, r).end;
    }

    public int way(int c, int r, int i) {
        if (noCell(c, r)) {
            return UNKNOWN;
        }
        List<Integer> places = new Course(c, r).places;
        return i < 0 || i >= places.size() ? NONE : places.get(i);
    }

    public int wet(int c, int r) {
        if (noCell(c, r)) {
            return UNKNOWN;
        }
        int in = 0;
        for (int[] cell : cells()) {
            in += new Course(cell[0], cell[1]).end == 10 * c + r ? 1 : 0;
        }
        return in;
    }

    public int dry() {
        for (int[] cell : cells()) {
            if (wet(cell[0], cell[1]) > 0) {
                return 0;
            }
        }
        return 1;
    }

    public int off(int c) {
        if (noColumn(c)) {
            return UNKNOWN;
        }
        int off = 0;
        for (int[] cell : cells()) {
            off += new Course(cell[0], cell[1]).eaves == c ? 1 : 0;
        }
        return off;
    }

    private int weightOfAll() {
        return bundles.stream().mapToInt(Bundle::all).sum();
    }

    public int years(int n) {
        if (not(n, 1, 99)) {
            return BAD;
        }
        int was = weightOfAll();
        for (int year = 0; year < n; year++) {
            for (int[] cell : cells()) {
                int top = top(cell[0], cell[1]);
                if (top >= 0) {
                    int less = wear[cell[0]][cell[1]];
                    bundles.get(top).left.computeIfPresent(cell[1], (r, v) -> v > less ? v - less : null);
                }
            }
        }
        return was - weightOfAll();
    }

    public int leaks() {
        PlainRoof p = copy();
        for (int year = 0; year <= 99; year++) {
            if (p.dry() == 0) {
                return year;
            }
            p.years(1);
        }
        return NONE;
    }

    public int leakAt() {
        int leaks = leaks();
        if (leaks == NONE) {
            return NONE;
        }
        PlainRoof p = copy();
        if (leaks > 0) {
            p.years(leaks);
        }
        for (int[] cell : cells()) {
            if (p.wet(cell[0], cell[1]) > 0) {
                return 10 * cell[0] + cell[1];
            }
        }
        throw new IllegalStateException();
    }

    public int weight(int c) {
        return noColumn(c) ? UNKNOWN : in(c).stream().mapToInt(Bundle::all).sum();
    }

    public int heavy(int c, int bound) {
        if (noColumn(c)) {
            return UNKNOWN;
        }
        if (not(bound, 0, 999)) {
            return BAD;
        }
        PlainRoof p = copy();
        int stripped = 0;
        while (p.weight(c) > bound) {
            stripped += p.strip(c, 1);
        }
        return stripped;
    }

    /** A copy with one column laid by a way; null if it does not do. */
    private PlainRoof laidBy(int c, int length, int way, int thickness) {
        PlainRoof p = copy();
        p.bundles.removeIf(b -> b.column == c || b.left.isEmpty());
        p.bundles = renumbered(p.bundles);
        for (int r = 0; r < rows; r++) {
            if ((way >> r) % 2 == 1) {
                if (opening[c][r] != 0) {
                    return null;
                }
                Bundle b = new Bundle(p.bundles.size(), c, r, length, 0, thickness);
                for (int k = r; k >= 0 && k > r - length && opening[c][k] == 0; k--) {
                    b.left.put(k, thickness);
                }
                p.bundles.add(b);
            }
        }
        return p;
    }

    private static List<Bundle> renumbered(List<Bundle> some) {
        List<Bundle> anew = new ArrayList<>();
        for (Bundle b : some) {
            Bundle same = new Bundle(anew.size(), b.column, b.row, b.length, b.sort, b.thickness);
            same.left.putAll(b.left);
            anew.add(same);
        }
        return anew;
    }

    public int proof(int c, int length, int way) {
        if (noColumn(c)) {
            return UNKNOWN;
        }
        if (not(length, 1, 3) || way < 0 || way >= Math.pow(2, rows)) {
            return BAD;
        }
        PlainRoof p = laidBy(c, length, way, 1);
        if (p == null) {
            return 0;
        }
        for (int r = 0; r < rows; r++) {
            int end = p.drop(c, r);
            if (end != OFF && end / 10 == c) {
                return 0;
            }
        }
        return 1;
    }

    public int fewest(int c, int length) {
        if (noColumn(c)) {
            return UNKNOWN;
        }
        if (not(length, 1, 3)) {
            return BAD;
        }
        for (int many = 0; many <= rows; many++) {
            for (int way = 0; way < Math.pow(2, rows); way++) {
                if (Integer.bitCount(way) == many && proof(c, length, way) == 1) {
                    return way;
                }
            }
        }
        return NONE;
    }

    public int grew(int sort, int first, int last) {
        if (not(sort, 0, 5)) {
            return UNKNOWN;
        }
        if (not(first, 0, 99) || not(last, 0, 99) || first > last) {
            return BAD;
        }
        int was = 100 * from[sort] + to[sort];
        from[sort] = first;
        to[sort] = last;
        return was;
    }

    private static boolean isOver(Bundle b, Bundle o) {
        return b.column == o.column && b.number > o.number && b.left.keySet().stream().anyMatch(o.left::containsKey);
    }

    public int over(int bundle, int other) {
        return noBundle(bundle) || noBundle(other) ? UNKNOWN : isOver(bundles.get(bundle), bundles.get(other)) ? 1 : 0;
    }

    /** Earliest and latest years of some bundles, narrowed till nothing changes; null if one has none. */
    private int[][] bounds(List<Bundle> some) {
        int n = some.size();
        int[][] years = new int[n][];
        for (int i = 0; i < n; i++) {
            years[i] = new int[] {from[some.get(i).sort], to[some.get(i).sort]};
        }
        for (boolean changed = true; changed;) {
            changed = false;
            for (int i = 0; i < n; i++) {
                for (int j = 0; j < n; j++) {
                    if (isOver(some.get(i), some.get(j))) {
                        if (years[i][0] < years[j][0]) {
                            years[i][0] = years[j][0];
                            changed = true;
                        }
                        if (years[j][1] > years[i][1]) {
                            years[j][1] = years[i][1];
                            changed = true;
                        }
                    }
                }
            }
        }
        for (int[] year : years) {
            if (year[0] > year[1]) {
                return null;
            }
        }
        return years;
    }

    public int when(int bundle, boolean late) {
        if (noBundle(bundle)) {
            return UNKNOWN;
        }
        if (bundles.get(bundle).left.isEmpty()) {
            return LATE;
        }
        int[][] years = bounds(bundles);
        return years == null ? NONE : years[bundle][late ? 1 : 0];
    }

    public int wrong() {
        for (int bundle = 0; bundle < bundles.size(); bundle++) {
            if (bounds(bundles.subList(0, bundle + 1)) == null) {
                return bundle;
            }
        }
        return NONE;
    }

    public long ways(int c) {
        if (noColumn(c)) {
            return UNKNOWN;
        }
        List<Bundle> some = in(c);
        if (some.size() > 5) {
            return LATE;
        }
        for (Bundle b : some) {
            if (to[b.sort] - from[b.sort] + 1 > 10) {
                return LATE;
            }
        }
        return countWays(some, new int[5], 0);
    }

    private long countWays(List<Bundle> some, int[] years, int k) {
        if (k == some.size()) {
            return 1;
        }
        long ways = 0;
        Bundle b = some.get(k);
        for (int year = from[b.sort]; year <= to[b.sort]; year++) {
            boolean can = true;
            for (int j = 0; j < k; j++) {
                can &= !isOver(b, some.get(j)) || years[j] <= year;
            }
            years[k] = year;
            ways += can ? countWays(some, years, k + 1) : 0;
        }
        return ways;
    }

    private boolean straw(int c, int r) {
        return !noCell(c, r) && !on(c, r).isEmpty();
    }

    private int burns(int c, int r, int wind, int cleared) {
        Set<Integer> burnt = new HashSet<>();
        Deque<int[]> next = new ArrayDeque<>();
        next.add(new int[] {c, r});
        int[][] steps = {{0, 0}, {1, 0}, {0, 1}, {-1, 0}, {0, -1}};
        while (!next.isEmpty()) {
            int[] at = next.remove();
            if (!straw(at[0], at[1]) || 10 * at[0] + at[1] == cleared || !burnt.add(10 * at[0] + at[1])) {
                continue;
            }
            for (int[] step : steps) {
                next.add(new int[] {at[0] + step[0], at[1] + step[1]});
            }
            next.add(new int[] {at[0] + 2 * steps[wind][0], at[1] + 2 * steps[wind][1]});
        }
        return burnt.size();
    }

    public int burnt(int c, int r, int wind) {
        if (noCell(c, r)) {
            return UNKNOWN;
        }
        return not(wind, 0, 4) ? BAD : burns(c, r, wind, NONE);
    }

    public int worst(int wind) {
        if (not(wind, 0, 4)) {
            return BAD;
        }
        int worst = NONE;
        int most = 0;
        for (int[] cell : cells()) {
            int burns = burns(cell[0], cell[1], wind, NONE);
            if (burns > most) {
                most = burns;
                worst = 10 * cell[0] + cell[1];
            }
        }
        return worst;
    }

    public int clear(int wind) {
        if (not(wind, 0, 4)) {
            return BAD;
        }
        int best = NONE;
        int least = Integer.MAX_VALUE;
        for (int[] cleared : cells()) {
            if (straw(cleared[0], cleared[1])) {
                int most = 0;
                for (int[] cell : cells()) {
                    most = Math.max(most, burns(cell[0], cell[1], wind, 10 * cleared[0] + cleared[1]));
                }
                if (most < least) {
                    least = most;
                    best = 10 * cleared[0] + cleared[1];
                }
            }
        }
        return best;
    }

    public int offer(int bundle, int unit, int length, int thickness, int years) {
        if (not(bundle, 0, 99) || not(unit, 0, 99) || not(length, 1, 3) || not(thickness, 1, 9) || not(years, 1, 99)) {
            return BAD;
        }
        PlainRoof p = copy();
        p.bundles = new ArrayList<>();
        for (int c = 0; c < columns; c++) {
            int way = p.fewest(c, length);
            if (way == NONE) {
                return NONE;
            }
            p = p.laidBy(c, length, way, thickness);
        }
        int leaks = p.leaks();
        if (leaks == 0) {
            return NONE;
        }
        int price = 0;
        for (int year = 0; year < years; year += leaks == NONE ? 1000 : leaks) {
            price += p.bundles.size() * (bundle + unit * thickness);
        }
        return price;
    }

    public int write(int n, long v) {
        if (not(n, 1, 8)) {
            return BAD;
        }
        if (text.length() + n > 60) {
            return FULL;
        }
        StringBuilder last = new StringBuilder();
        for (int i = 0; i < n; i++) {
            last.append((char) (v & 255));
            v >>= 8;
        }
        text += last.reverse();
        return text.length();
    }

    public int wipe() {
        int was = text.length();
        text = "";
        return was;
    }

    public int fault() {
        Pattern history = Pattern.compile("(B[0-" + (columns - 1) + "][0-" + (rows - 1) + "][1-3][0-5][1-9]|Y[1-9]|S[0-"
                + (columns - 1) + "][1-9])*");
        for (int length = 1; length <= text.length(); length++) {
            Matcher m = history.matcher(text.substring(0, length));
            if (!m.matches() && !m.hitEnd()) {
                return length - 1;
            }
        }
        return history.matcher(text).matches() ? NONE : text.length();
    }

    public int done() {
        if (fault() != NONE) {
            return LATE;
        }
        int parts = 0;
        Matcher m = Pattern.compile("[BYS][0-9]*").matcher(text);
        while (m.find()) {
            int[] f = m.group().substring(1).chars().map(c -> c - '0').toArray();
            int answer = f.length == 5 ? lay(f[0], f[1], f[2], f[3], f[4]) : f.length == 1 ? years(f[0]) : strip(f[0], f[1]);
            if (answer < 0) {
                break;
            }
            parts++;
        }
        return parts;
    }

    public int keep(int slot) {
        if (not(slot, 0, 1)) {
            return UNKNOWN;
        }
        slots.set(slot, copyOf(bundles));
        return bundles.size();
    }

    public int again(int slot) {
        if (not(slot, 0, 1)) {
            return UNKNOWN;
        }
        if (slots.get(slot) == null) {
            return LATE;
        }
        for (Bundle b : slots.get(slot)) {
            for (int r : b.left.keySet()) {
                if (opening[b.column][r] != 0) {
                    return LATE;
                }
            }
        }
        bundles = copyOf(slots.get(slot));
        return bundles.size();
    }

    public int count(int what) {
        int open = 0;
        for (int[] cell : cells()) {
            open += opening[cell[0]][cell[1]] != 0 ? 1 : 0;
        }
        int lie = (int) bundles.stream().filter(b -> !b.left.isEmpty()).count();
        int[] counts = {columns, rows, bundles.size(), lie, open, text.length()};
        return not(what, 0, 5) ? BAD : counts[what];
    }
}
