/** Promises 1 to 11: a new object, roof, pitch, wear, opening, lay, strip, about, left, top, depth. */
public final class RoofTest {
    private static final Due DUE = new Due("RoofTest");
    private static final int UNKNOWN = -1, BAD = -2, LATE = -3, FULL = -4, NONE = -9;

    public static void main(String[] args) {
        constants();
        newObject();
        roof();
        roofKeepsAndForgets();
        pitch();
        wear();
        opening();
        lay();
        layEndsAheadOfOpeningsAndEaves();
        layIsFullAtForty();
        strip();
        about();
        left();
        topAndDepth();
        DUE.end();
    }

    private static void constants() {
        DUE.is("UNKNOWN", StrawCoats.UNKNOWN, UNKNOWN);
        DUE.is("BAD", StrawCoats.BAD, BAD);
        DUE.is("LATE", StrawCoats.LATE, LATE);
        DUE.is("FULL", StrawCoats.FULL, FULL);
        DUE.is("NONE", StrawCoats.NONE, NONE);
    }

    private static void newObject() {
        StrawCoats x = new StrawCoats();
        int[] counts = {4, 4, 0, 0, 0, 0};
        for (int what = 0; what < counts.length; what++) {
            DUE.is("new count(" + what + ")", x.count(what), counts[what]);
        }
        for (int column = 0; column < 4; column++) {
            for (int row = 0; row < 4; row++) {
                DUE.is("new top", x.top(column, row), NONE);
                DUE.is("new wear", x.wear(column, row, 1), 1);
                DUE.is("new opening", x.opening(column, row, 0), 0);
            }
        }
        DUE.is("new pitch", x.pitch(2), 2);
        for (int sort = 0; sort < 6; sort++) {
            DUE.is("new grew", x.grew(sort, 0, 99), 99);
        }
        DUE.is("new again(0)", x.again(0), LATE);
        DUE.is("new again(1)", x.again(1), LATE);
        DUE.is("new about", x.about(0, 0), UNKNOWN);
    }

    private static void roof() {
        StrawCoats x = new StrawCoats();
        int[][] sizes = {{1, 1}, {6, 6}, {6, 1}, {1, 6}, {3, 5}};
        for (int[] size : sizes) {
            DUE.is("roof", x.roof(size[0], size[1]), size[0] * size[1]);
            DUE.is("count(0)", x.count(0), size[0]);
            DUE.is("count(1)", x.count(1), size[1]);
            DUE.is("top of the last", x.top(size[0] - 1, size[1] - 1), NONE);
            DUE.is("column beyond", x.top(size[0], 0), UNKNOWN);
            DUE.is("row beyond", x.top(0, size[1]), UNKNOWN);
        }
        int[][] wrong = {{0, 1}, {1, 0}, {7, 1}, {1, 7}, {-1, 3}, {3, Integer.MIN_VALUE}, {Integer.MAX_VALUE, 1}};
        for (int[] size : wrong) {
            DUE.is("bad roof", x.roof(size[0], size[1]), BAD);
        }
        DUE.is("bad roof leaves columns", x.count(0), 3);
        DUE.is("bad roof leaves rows", x.count(1), 5);
    }

    private static void roofKeepsAndForgets() {
        StrawCoats x = new StrawCoats();
        x.pitch(3);
        x.grew(2, 7, 9);
        x.write(2, 'Y' << 8 | '1');
        x.wear(1, 1, 3);
        x.opening(2, 2, 1);
        x.lay(0, 1, 2, 0, 4);
        x.keep(0);
        x.keep(1);
        DUE.is("bad roof", x.roof(4, 7), BAD);
        DUE.is("bad roof leaves bundles", x.count(2), 1);
        DUE.is("bad roof leaves what was kept", x.again(1), 1);
        DUE.is("roof", x.roof(4, 4), 16);
        DUE.is("bundles are gone", x.count(2), 0);
        DUE.is("bundles are unknown", x.left(0, 0), UNKNOWN);
        DUE.is("openings are gone", x.count(4), 0);
        DUE.is("opening was", x.opening(2, 2, 0), 0);
        DUE.is("wear is 1", x.wear(1, 1, 2), 1);
        DUE.is("kept 0 is gone", x.again(0), LATE);
        DUE.is("kept 1 is gone", x.again(1), LATE);
        DUE.is("pitch stays", x.pitch(1), 3);
        DUE.is("sorts stay", x.grew(2, 0, 0), 709);
        DUE.is("text stays", x.count(5), 2);
        DUE.is("numbers begin anew", x.lay(3, 3, 1, 0, 1), 0);
        DUE.is("nothing else lies", x.weight(0), 0);
        DUE.is("nothing is left of the old one", x.left(0, 0), 0);
        DUE.is("all of the new one", x.about(0, 5), 1);
    }

    private static void pitch() {
        StrawCoats x = new StrawCoats();
        DUE.is("pitch(1)", x.pitch(1), 2);
        DUE.is("pitch(0)", x.pitch(0), BAD);
        DUE.is("pitch(4)", x.pitch(4), BAD);
        DUE.is("pitch(-1)", x.pitch(-1), BAD);
        DUE.is("pitch(3)", x.pitch(3), 1);
        DUE.is("pitch(3)", x.pitch(3), 3);
    }

    private static void wear() {
        StrawCoats x = new StrawCoats();
        DUE.is("wear 3", x.wear(3, 0, 3), 1);
        DUE.is("wear 2", x.wear(3, 0, 2), 3);
        DUE.is("wear 0", x.wear(3, 0, 0), BAD);
        DUE.is("wear 4", x.wear(3, 0, 4), BAD);
        DUE.is("wear elsewhere", x.wear(0, 3, 1), 1);
        DUE.is("wear column 4", x.wear(4, 0, 1), UNKNOWN);
        DUE.is("wear row 4", x.wear(0, 4, 1), UNKNOWN);
        DUE.is("wear column -1", x.wear(-1, 0, 1), UNKNOWN);
        DUE.is("wear row -1", x.wear(0, -1, 1), UNKNOWN);
        DUE.is("unknown ahead of bad", x.wear(4, 0, 9), UNKNOWN);
        DUE.is("refused wear changed nothing", x.wear(3, 0, 1), 2);
    }

    private static void opening() {
        StrawCoats x = new StrawCoats();
        DUE.is("opening 1", x.opening(1, 2, 1), 0);
        DUE.is("opening 2", x.opening(1, 2, 2), 1);
        DUE.is("opening -1", x.opening(1, 2, -1), BAD);
        DUE.is("opening 3", x.opening(1, 2, 3), BAD);
        DUE.is("opening column", x.opening(4, 2, 1), UNKNOWN);
        DUE.is("opening row", x.opening(1, -1, 1), UNKNOWN);
        DUE.is("unknown ahead of bad", x.opening(1, 4, 3), UNKNOWN);
        DUE.is("count(4)", x.count(4), 1);
        x.lay(1, 1, 1, 0, 1);
        DUE.is("on straw", x.opening(1, 1, 1), LATE);
        DUE.is("on straw, none", x.opening(1, 1, 0), LATE);
        DUE.is("bad ahead of late", x.opening(1, 1, 3), BAD);
        DUE.is("count(4)", x.count(4), 1);
        x.years(1);
        DUE.is("where straw is worn away", x.opening(1, 1, 1), 0);
        DUE.is("no longer", x.opening(1, 2, 0), 2);
        DUE.is("count(4)", x.count(4), 1);
    }

    private static void lay() {
        StrawCoats x = new StrawCoats();
        DUE.is("first", x.lay(0, 0, 1, 0, 1), 0);
        DUE.is("second", x.lay(3, 3, 3, 5, 9), 1);
        int[][] unknown = {{4, 0, 1, 0, 1}, {-1, 0, 1, 0, 1}, {0, 4, 1, 0, 1}, {0, -1, 1, 0, 1},
            {0, 0, 1, 6, 1}, {0, 0, 1, -1, 1}};
        for (int[] a : unknown) {
            DUE.is("unknown", x.lay(a[0], a[1], a[2], a[3], a[4]), UNKNOWN);
            DUE.is("unknown ahead of length", x.lay(a[0], a[1], 0, a[3], a[4]), UNKNOWN);
            DUE.is("unknown ahead of thickness", x.lay(a[0], a[1], a[2], a[3], 10), UNKNOWN);
        }
        int[][] bad = {{0, 1}, {4, 1}, {1, 0}, {1, 10}, {-1, 1}, {1, -1}};
        x.opening(2, 2, 1);
        for (int[] a : bad) {
            DUE.is("bad", x.lay(0, 0, a[0], 0, a[1]), BAD);
            DUE.is("bad ahead of late", x.lay(2, 2, a[0], 0, a[1]), BAD);
        }
        DUE.is("sort ahead of opening", x.lay(2, 2, 1, 6, 1), UNKNOWN);
        DUE.is("on an opening", x.lay(2, 2, 1, 0, 1), LATE);
        DUE.is("refused ones are not laid", x.count(2), 2);
        DUE.is("third", x.lay(2, 3, 1, 2, 3), 2);
        DUE.is("left at 3", x.left(1, 3), 9);
        DUE.is("left at 2", x.left(1, 2), 9);
        DUE.is("left at 1", x.left(1, 1), 9);
        DUE.is("left at 0", x.left(1, 0), 0);
    }

    private static void layEndsAheadOfOpeningsAndEaves() {
        StrawCoats x = new StrawCoats();
        x.roof(2, 6);
        x.opening(0, 3, 1);
        x.lay(0, 5, 3, 0, 2);
        int[] due = {0, 0, 0, 0, 2, 2};
        for (int row = 0; row < 6; row++) {
            DUE.is("ahead of an opening, row " + row, x.left(0, row), due[row]);
        }
        x.lay(0, 1, 3, 0, 5);
        DUE.is("eaves 1", x.left(1, 1), 5);
        DUE.is("eaves 0", x.left(1, 0), 5);
        DUE.is("all of it", x.about(1, 5), 10);
        x.lay(0, 4, 2, 0, 7);
        DUE.is("above an opening alone", x.about(2, 5), 7);
        DUE.is("not beyond it", x.left(2, 2), 0);
        x.opening(0, 3, 0);
        DUE.is("what was cut stays so", x.left(0, 3), 0);
    }

    private static void layIsFullAtForty() {
        StrawCoats x = new StrawCoats();
        for (int bundle = 0; bundle < 40; bundle++) {
            DUE.is("lay " + bundle, x.lay(bundle % 4, bundle / 4 % 4, 1, 0, 1), bundle);
        }
        DUE.is("41st", x.lay(0, 0, 1, 0, 1), FULL);
        DUE.is("unknown ahead of full", x.lay(0, 4, 1, 0, 1), UNKNOWN);
        DUE.is("bad ahead of full", x.lay(0, 0, 4, 0, 1), BAD);
        DUE.is("stripped", x.strip(0, 9), 9);
        DUE.is("laid is what counts, not what lies", x.lay(0, 0, 1, 0, 1), FULL);
        DUE.is("stripped", x.strip(0, 9), 1);
        x.opening(0, 0, 1);
        DUE.is("late ahead of full", x.lay(0, 0, 1, 0, 1), LATE);
        DUE.is("laid", x.count(2), 40);
        DUE.is("lies", x.count(3), 30);
        x.roof(4, 4);
        DUE.is("another roof has room", x.lay(0, 0, 1, 0, 1), 0);
    }

    private static void strip() {
        StrawCoats x = new StrawCoats();
        x.lay(0, 3, 2, 0, 1);
        x.lay(1, 3, 2, 0, 2);
        x.lay(0, 1, 2, 0, 3);
        x.lay(0, 2, 2, 0, 4);
        DUE.is("strip(4, 1)", x.strip(4, 1), UNKNOWN);
        DUE.is("strip(-1, 1)", x.strip(-1, 1), UNKNOWN);
        DUE.is("strip(4, 0)", x.strip(4, 0), UNKNOWN);
        DUE.is("strip(0, 0)", x.strip(0, 0), BAD);
        DUE.is("strip(0, 10)", x.strip(0, 10), BAD);
        DUE.is("nothing is gone", x.count(3), 4);
        DUE.is("strip(0, 1)", x.strip(0, 1), 1);
        DUE.is("the greatest is gone", x.about(3, 5), 0);
        DUE.is("the others stay", x.count(3), 3);
        DUE.is("numbers stay", x.top(0, 1), 2);
        DUE.is("strip(0, 9)", x.strip(0, 9), 2);
        DUE.is("another column stays", x.top(1, 3), 1);
        DUE.is("strip(0, 9)", x.strip(0, 9), 0);
        DUE.is("strip(2, 3)", x.strip(2, 3), 0);
        DUE.is("next number", x.lay(0, 0, 1, 0, 1), 4);
        x.lay(0, 1, 2, 0, 5);
        x.wear(0, 0, 1);
        x.years(3);
        DUE.is("strip what is worn in part", x.strip(0, 2), 2);
    }

    private static void about() {
        StrawCoats x = new StrawCoats();
        x.lay(2, 1, 3, 4, 6);
        x.lay(3, 3, 2, 5, 9);
        int[] first = {2, 1, 3, 4, 6, 12};
        int[] second = {3, 3, 2, 5, 9, 18};
        for (int what = 0; what < 6; what++) {
            DUE.is("about(0, " + what + ")", x.about(0, what), first[what]);
            DUE.is("about(1, " + what + ")", x.about(1, what), second[what]);
        }
        x.years(2);
        DUE.is("thickness when it was laid", x.about(1, 4), 9);
        DUE.is("what is left", x.about(1, 5), 14);
        x.strip(3, 1);
        DUE.is("stripped, its row", x.about(1, 1), 3);
        DUE.is("stripped, what is left", x.about(1, 5), 0);
        DUE.is("about(2, 0)", x.about(2, 0), UNKNOWN);
        DUE.is("about(-1, 0)", x.about(-1, 0), UNKNOWN);
        DUE.is("about(0, -1)", x.about(0, -1), BAD);
        DUE.is("about(0, 6)", x.about(0, 6), BAD);
        DUE.is("unknown ahead of bad", x.about(2, 6), UNKNOWN);
        DUE.is("about(40, 0)", x.about(40, 0), UNKNOWN);
    }

    private static void left() {
        StrawCoats x = new StrawCoats();
        x.lay(1, 2, 2, 0, 3);
        int[] due = {0, 3, 3, 0};
        for (int row = 0; row < 4; row++) {
            DUE.is("left(0, " + row + ")", x.left(0, row), due[row]);
        }
        x.wear(1, 1, 2);
        x.years(1);
        DUE.is("left(0, 1)", x.left(0, 1), 1);
        DUE.is("left(0, 2)", x.left(0, 2), 2);
        DUE.is("left(0, 4)", x.left(0, 4), UNKNOWN);
        DUE.is("left(0, -1)", x.left(0, -1), UNKNOWN);
        DUE.is("left(1, 0)", x.left(1, 0), UNKNOWN);
        DUE.is("left(-1, 0)", x.left(-1, 0), UNKNOWN);
    }

    private static void topAndDepth() {
        StrawCoats x = new StrawCoats();
        DUE.is("bare top", x.top(1, 1), NONE);
        DUE.is("bare depth 0", x.depth(1, 1, 0), 0);
        DUE.is("bare depth 1", x.depth(1, 1, 1), 0);
        x.lay(1, 1, 2, 0, 3);
        x.lay(1, 2, 2, 0, 1);
        x.lay(1, 0, 1, 0, 5);
        DUE.is("top(1, 2)", x.top(1, 2), 1);
        DUE.is("top(1, 1)", x.top(1, 1), 1);
        DUE.is("top(1, 0)", x.top(1, 0), 2);
        DUE.is("depth(1, 1, 0)", x.depth(1, 1, 0), 2);
        DUE.is("depth(1, 1, 1)", x.depth(1, 1, 1), 4);
        DUE.is("depth(1, 0, 1)", x.depth(1, 0, 1), 8);
        x.years(1);
        DUE.is("worn away, top", x.top(1, 1), 0);
        DUE.is("worn away, depth 0", x.depth(1, 1, 0), 1);
        DUE.is("worn away, depth 1", x.depth(1, 1, 1), 3);
        DUE.is("top column", x.top(4, 0), UNKNOWN);
        DUE.is("top row", x.top(0, -1), UNKNOWN);
        DUE.is("depth column", x.depth(-1, 0, 0), UNKNOWN);
        DUE.is("depth row", x.depth(0, 4, 0), UNKNOWN);
        DUE.is("depth what -1", x.depth(0, 0, -1), BAD);
        DUE.is("depth what 2", x.depth(0, 0, 2), BAD);
        DUE.is("unknown ahead of bad", x.depth(4, 0, 2), UNKNOWN);
    }
}
