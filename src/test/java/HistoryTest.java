/** Promises 33 to 39: write, wipe, fault, done, keep, again, count. */
public final class HistoryTest {
    private static final Due DUE = new Due("HistoryTest");
    private static final int UNKNOWN = -1, BAD = -2, LATE = -3, FULL = -4, NONE = -9;

    public static void main(String[] args) {
        write();
        fault();
        faultBySizes();
        done();
        doneTillOneCanNotBe();
        keepAndAgain();
        againTellsOfEachBundle();
        againOnOpenings();
        slots();
        count();
        DUE.end();
    }

    private static void tell(StrawCoats x, String text) {
        x.wipe();
        for (int i = 0; i < text.length(); i++) {
            x.write(1, text.charAt(i));
        }
    }

    private static void write() {
        StrawCoats x = new StrawCoats();
        DUE.is("write(0)", x.write(0, 1), BAD);
        DUE.is("write(9)", x.write(9, 1), BAD);
        DUE.is("write(-1)", x.write(-1, 1), BAD);
        DUE.is("count(5)", x.count(5), 0);
        DUE.is("write(2)", x.write(2, 0x7777_5931L), 2);
        DUE.is("the lowest, the highest of these first", x.fault(), NONE);
        DUE.is("done", x.done(), 1);
        DUE.is("wipe", x.wipe(), 2);
        DUE.is("wipe", x.wipe(), 0);
        DUE.is("write(8)", x.write(8, 0x5931593259335934L), 8);
        DUE.is("eight bytes", x.done(), 4);
        DUE.is("behind it", x.write(1, 'Y'), 9);
        DUE.is("fault", x.fault(), 9);
        DUE.is("write(8, -1)", x.write(8, -1L), 17);
        DUE.is("fault", x.fault(), 9);
        x.wipe();
        for (int n = 8; n <= 56; n += 8) {
            DUE.is("write 8", x.write(8, 0x5931593159315931L), n);
        }
        DUE.is("too long", x.write(5, 0x5931593159L), FULL);
        DUE.is("bad ahead of full", x.write(9, 0), BAD);
        DUE.is("nothing comes", x.count(5), 56);
        DUE.is("just 60", x.write(4, 0x59315931L), 60);
        DUE.is("full", x.write(1, 'Y'), FULL);
        DUE.is("fault", x.fault(), NONE);
        DUE.is("done", x.done(), 30);
        DUE.is("wipe", x.wipe(), 60);
        DUE.is("count(5)", x.count(5), 0);
        DUE.is("fault of an empty one", x.fault(), NONE);
        DUE.is("done of an empty one", x.done(), 0);
    }

    private static void fault() {
        String[] told = {"", "B", "B0", "B00", "B001", "B0010", "B00101", "B00101Y", "B00101Y1", "B00101Y1S", "S0",
            "S01", "Y9", "S39", "B33359", "X", "Y0", "Y1X", "y1", "b", "B4", "B04", "B000", "B004", "B0016",
            "B00100", "S4", "S00", "Y:", "B:", "B0:", "B00/", "B001/", "B0010:", "S/", "S0:", "Y1 Y1", "YY",
            "SS", "BB", "1", "B00101S", "B00101B", "Y12", "S0112", "Z0", "\u00e9", "Y\u0000"};
        int[] due = {NONE, 1, 2, 3, 4, 5, NONE, 7, NONE, 9, 2, NONE, NONE, NONE, NONE, 0, 1, 2, 0, 0, 1, 2, 3, 3, 4,
            5, 1, 2, 1, 1, 2, 3, 4, 5, 1, 2, 2, 1, 1, 1, 0, 7, 7, 2, 3, 0, 0, 1};
        StrawCoats x = new StrawCoats();
        for (int k = 0; k < told.length; k++) {
            tell(x, told[k]);
            DUE.is("fault of " + told[k], x.fault(), due[k]);
            if (due[k] != NONE) {
                DUE.is("done of " + told[k], x.done(), LATE);
            }
        }
        DUE.is("nothing was done", x.count(2), 0);
    }

    private static void faultBySizes() {
        StrawCoats x = new StrawCoats();
        tell(x, "Y1B33101S31");
        DUE.is("4, 4", x.fault(), NONE);
        x.roof(4, 3);
        DUE.is("4, 3", x.fault(), 4);
        x.roof(3, 4);
        DUE.is("3, 4", x.fault(), 3);
        x.roof(1, 1);
        DUE.is("1, 1", x.fault(), 3);
        x.roof(6, 6);
        tell(x, "S51B55111S6");
        DUE.is("6, 6", x.fault(), 10);
        tell(x, "B60111");
        DUE.is("column 6", x.fault(), 1);
        tell(x, "B06111");
        DUE.is("row 6", x.fault(), 2);
    }

    private static void done() {
        StrawCoats x = new StrawCoats();
        tell(x, "B01205B02237Y2S01");
        DUE.is("done", x.done(), 4);
        DUE.is("the text stays", x.count(5), 17);
        DUE.is("laid", x.count(2), 2);
        DUE.is("stripped", x.count(3), 1);
        DUE.is("years of the first", x.left(0, 0), 3);
        DUE.is("not where the second lay", x.left(0, 1), 5);
        int[] second = {0, 2, 2, 3, 7, 0};
        for (int what = 0; what < 6; what++) {
            DUE.is("about(1, " + what + ")", x.about(1, what), second[what]);
        }
        DUE.is("once more", x.done(), 4);
        DUE.is("laid", x.count(2), 4);
        tell(x, "S09S09");
        DUE.is("nothing to strip is done as well", x.done(), 2);
        DUE.is("count(3)", x.count(3), 0);
    }

    private static void doneTillOneCanNotBe() {
        StrawCoats x = new StrawCoats();
        x.opening(1, 1, 1);
        tell(x, "B01109B11109Y1");
        DUE.is("on an opening", x.done(), 1);
        DUE.is("no year went by", x.weight(0), 9);
        tell(x, "Y2B11109");
        DUE.is("a year did", x.done(), 1);
        DUE.is("what was ahead of it is done", x.weight(0), 7);
        for (int bundle = 1; bundle < 39; bundle++) {
            x.lay(3, 3, 1, 0, 1);
        }
        tell(x, "B00101B00101S01");
        DUE.is("full", x.done(), 1);
        DUE.is("laid", x.count(2), 40);
        DUE.is("nothing is stripped", x.weight(0), 8);
        tell(x, "Y1B0010");
        DUE.is("not at its end", x.done(), LATE);
        DUE.is("nothing is done", x.weight(0), 8);
    }

    private static void keepAndAgain() {
        StrawCoats x = new StrawCoats();
        DUE.is("keep none", x.keep(1), 0);
        x.lay(0, 1, 2, 0, 5);
        x.lay(1, 3, 3, 2, 6);
        x.years(1);
        x.strip(1, 1);
        DUE.is("keep(0)", x.keep(0), 2);
        x.lay(2, 2, 1, 1, 1);
        x.years(3);
        x.strip(0, 9);
        DUE.is("again(0)", x.again(0), 2);
        DUE.is("left as it was kept", x.about(0, 5), 8);
        DUE.is("stripped as it was kept", x.about(1, 5), 0);
        DUE.is("its sort", x.about(1, 3), 2);
        DUE.is("later ones are not", x.about(2, 0), UNKNOWN);
        DUE.is("nor do they lie", x.top(2, 2), NONE);
        DUE.is("the next number", x.lay(3, 3, 1, 0, 1), 2);
        DUE.is("its row alone", x.about(2, 5), 1);
        DUE.is("again(0) once more", x.again(0), 2);
        DUE.is("none, as they were kept", x.again(1), 0);
        DUE.is("bare", x.weight(0), 0);
        DUE.is("keep over it", x.keep(0), 0);
        DUE.is("again(0)", x.again(0), 0);
    }

    private static void againTellsOfEachBundle() {
        StrawCoats x = new StrawCoats();
        x.lay(0, 0, 1, 0, 1);
        x.keep(0);
        x.lay(1, 2, 3, 4, 5);
        x.keep(1);
        x.again(0);
        DUE.is("another second one", x.lay(3, 1, 2, 1, 9), 1);
        int[] other = {3, 1, 2, 1, 9, 18};
        int[] kept = {1, 2, 3, 4, 5, 15};
        for (int what = 0; what < 6; what++) {
            DUE.is("about(1, " + what + ")", x.about(1, what), other[what]);
        }
        x.again(1);
        for (int what = 0; what < 6; what++) {
            DUE.is("about(1, " + what + ") as it was kept", x.about(1, what), kept[what]);
        }
    }

    private static void againOnOpenings() {
        StrawCoats x = new StrawCoats();
        x.lay(2, 2, 2, 0, 1);
        x.wear(2, 2, 2);
        x.lay(2, 2, 1, 0, 1);
        x.keep(0);
        x.strip(2, 9);
        x.keep(1);
        x.opening(2, 1, 1);
        x.opening(3, 1, 1);
        DUE.is("an opening where one lies", x.again(0), LATE);
        DUE.is("nothing came", x.count(3), 0);
        DUE.is("where nothing is left it may be", x.again(1), 2);
        x.opening(2, 1, 0);
        DUE.is("no longer", x.again(0), 2);
        DUE.is("left", x.weight(2), 3);
        x.strip(2, 9);
        x.opening(2, 0, 1);
        DUE.is("beside them it may be", x.again(0), 2);
        x.wear(2, 2, 3);
        x.pitch(1);
        x.again(0);
        DUE.is("wear is not kept", x.wear(2, 2, 1), 3);
        DUE.is("nor the pitch", x.pitch(2), 1);
        DUE.is("nor openings", x.count(4), 2);
    }

    private static void slots() {
        StrawCoats x = new StrawCoats();
        int[] unknown = {-1, 2, Integer.MAX_VALUE, Integer.MIN_VALUE};
        for (int slot : unknown) {
            DUE.is("keep(" + slot + ")", x.keep(slot), UNKNOWN);
            DUE.is("again(" + slot + ")", x.again(slot), UNKNOWN);
        }
        x.lay(0, 0, 1, 0, 1);
        x.keep(0);
        DUE.is("the other one is empty", x.again(1), LATE);
        x.lay(0, 0, 1, 0, 1);
        x.keep(1);
        DUE.is("each its own", x.again(0), 1);
        DUE.is("each its own", x.again(1), 2);
        DUE.is("roof", x.roof(4, 4), 16);
        DUE.is("gone", x.again(0), LATE);
        DUE.is("gone", x.again(1), LATE);
    }

    private static void count() {
        StrawCoats x = new StrawCoats();
        x.roof(5, 3);
        x.opening(4, 2, 1);
        x.opening(0, 0, 2);
        x.lay(1, 2, 3, 0, 1);
        x.lay(2, 2, 3, 0, 2);
        x.lay(3, 2, 3, 0, 3);
        x.years(1);
        x.write(7, 0);
        int[] due = {5, 3, 3, 2, 2, 7};
        for (int what = 0; what < 6; what++) {
            DUE.is("count(" + what + ")", x.count(what), due[what]);
        }
        DUE.is("count(-1)", x.count(-1), BAD);
        DUE.is("count(6)", x.count(6), BAD);
    }
}
