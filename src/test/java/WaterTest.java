/** Promises 12 to 16: drop, way, wet, dry, off. */
public final class WaterTest {
    private static final Due DUE = new Due("WaterTest");
    private static final int UNKNOWN = -1, NONE = -9, OFF = 100;

    public static void main(String[] args) {
        bareRoof();
        alongOneBundle();
        underAnotherOne();
        lapOfTwoRows();
        lapAtTheRidgeAndAtOpenings();
        onlyTheGreatestBelowIsAsked();
        theWrongWayOfLaying();
        asideAtAnOpening();
        asideBeyondTheRoof();
        betweenTwoOpenings();
        refusals();
        DUE.end();
    }

    private static void way(StrawCoats x, int column, int row, int... due) {
        for (int i = 0; i < due.length; i++) {
            DUE.is("way(" + column + ", " + row + ", " + i + ")", x.way(column, row, i), due[i]);
        }
        DUE.is("way at its end", x.way(column, row, due.length), NONE);
        DUE.is("way far beyond", x.way(column, row, Integer.MAX_VALUE), NONE);
        DUE.is("way below 0", x.way(column, row, -1), NONE);
        DUE.is("way far below 0", x.way(column, row, Integer.MIN_VALUE), NONE);
    }

    private static void bareRoof() {
        StrawCoats x = new StrawCoats();
        for (int column = 0; column < 4; column++) {
            for (int row = 0; row < 4; row++) {
                DUE.is("in at once", x.drop(column, row), 10 * column + row);
                DUE.is("wet by one", x.wet(column, row), 1);
                way(x, column, row);
            }
            DUE.is("off", x.off(column), 0);
        }
        DUE.is("dry", x.dry(), 0);
    }

    private static void alongOneBundle() {
        StrawCoats x = new StrawCoats();
        x.roof(1, 3);
        x.lay(0, 2, 3, 0, 1);
        x.lay(0, 1, 1, 0, 1);
        DUE.is("same bundle, whatever lies over it", x.drop(0, 2), OFF);
        way(x, 0, 2, 2, 1, 0);
        DUE.is("onto the top", x.drop(0, 1), 100);
        way(x, 0, 1, 101, 0);
        DUE.is("wet(0, 0)", x.wet(0, 0), 0);
        DUE.is("off(0)", x.off(0), 3);
        DUE.is("dry", x.dry(), 1);
    }

    private static void underAnotherOne() {
        StrawCoats x = new StrawCoats();
        x.roof(1, 3);
        x.lay(0, 1, 2, 0, 1);
        x.lay(0, 2, 2, 0, 1);
        DUE.is("lap 1", x.drop(0, 2), OFF);
        way(x, 0, 2, 102, 101, 0);
        DUE.is("dry", x.dry(), 1);
        DUE.is("off", x.off(0), 3);
        x.pitch(3);
        DUE.is("pitch 3 laps like 2", x.dry(), 1);
        x.pitch(1);
        DUE.is("lap 2", x.drop(0, 2), 0);
        way(x, 0, 2, 102, 101);
        DUE.is("wet", x.wet(0, 0), 2);
        DUE.is("off", x.off(0), 1);
    }

    private static void lapOfTwoRows() {
        StrawCoats x = new StrawCoats();
        x.roof(1, 4);
        x.pitch(1);
        x.lay(0, 2, 3, 0, 1);
        x.lay(0, 3, 3, 0, 1);
        DUE.is("three rows lap two", x.drop(0, 3), OFF);
        way(x, 0, 3, 103, 102, 101, 0);
        DUE.is("dry", x.dry(), 1);
    }

    private static void lapAtTheRidgeAndAtOpenings() {
        StrawCoats x = new StrawCoats();
        x.roof(2, 2);
        x.pitch(1);
        x.lay(0, 1, 2, 0, 1);
        x.lay(0, 1, 1, 0, 1);
        DUE.is("rows above the ridge are not asked", x.drop(0, 1), OFF);
        x.roof(2, 4);
        x.opening(1, 2, 1);
        x.lay(1, 1, 2, 0, 1);
        x.lay(1, 1, 1, 0, 1);
        DUE.is("openings above are not asked", x.drop(1, 1), OFF);
        way(x, 1, 1, 111, 10);
        x.roof(2, 4);
        x.lay(1, 1, 2, 0, 1);
        x.lay(1, 1, 1, 0, 1);
        DUE.is("without it they are", x.drop(1, 1), 10);
    }

    private static void onlyTheGreatestBelowIsAsked() {
        StrawCoats x = new StrawCoats();
        x.roof(1, 2);
        x.lay(0, 1, 2, 0, 1);
        x.lay(0, 0, 1, 0, 1);
        x.lay(0, 1, 1, 0, 1);
        DUE.is("the lesser one would take it", x.drop(0, 1), 0);
        way(x, 0, 1, 201);
    }

    private static void theWrongWayOfLaying() {
        StrawCoats x = new StrawCoats();
        x.roof(1, 4);
        x.lay(0, 3, 2, 0, 1);
        x.lay(0, 2, 2, 0, 1);
        x.lay(0, 1, 2, 0, 1);
        DUE.is("later ones lie over the way", x.drop(0, 3), 1);
        way(x, 0, 3, 3, 2);
        DUE.is("drop(0, 2)", x.drop(0, 2), 0);
        DUE.is("drop(0, 1)", x.drop(0, 1), OFF);
        DUE.is("wet(0, 1)", x.wet(0, 1), 1);
        DUE.is("wet(0, 0)", x.wet(0, 0), 1);
    }

    private static void asideAtAnOpening() {
        StrawCoats x = new StrawCoats();
        x.roof(3, 3);
        x.opening(1, 1, 1);
        x.lay(0, 1, 2, 0, 1);
        x.lay(0, 2, 2, 0, 1);
        x.lay(1, 2, 1, 0, 1);
        DUE.is("to the left", x.drop(1, 2), OFF);
        way(x, 1, 2, 212, 9911, 101, 0);
        DUE.is("falls on it", x.drop(1, 1), OFF);
        way(x, 1, 1, 9911, 101, 0);
        DUE.is("off the other eaves", x.off(0), 5);
        DUE.is("not of its own", x.off(1), 0);
        x.opening(1, 1, 2);
        DUE.is("to the right, bare", x.drop(1, 2), 21);
        way(x, 1, 2, 212, 9911);
        DUE.is("wet(2, 1)", x.wet(2, 1), 3);
        DUE.is("wet(1, 0)", x.wet(1, 0), 1);
    }

    private static void asideBeyondTheRoof() {
        StrawCoats x = new StrawCoats();
        x.roof(1, 2);
        x.opening(0, 1, 1);
        x.opening(0, 0, 2);
        DUE.is("left of column 0", x.drop(0, 1), OFF);
        DUE.is("right of the last column", x.drop(0, 0), OFF);
        way(x, 0, 1, 9901);
        way(x, 0, 0, 9900);
        DUE.is("dry", x.dry(), 1);
        DUE.is("by no eaves", x.off(0), 0);
    }

    private static void betweenTwoOpenings() {
        StrawCoats x = new StrawCoats();
        x.roof(3, 1);
        x.opening(0, 0, 2);
        x.opening(1, 0, 1);
        DUE.is("turned there before", x.drop(0, 0), 0);
        way(x, 0, 0, 9900, 9910);
        DUE.is("and from the other", x.drop(1, 0), 10);
        way(x, 1, 0, 9910, 9900);
        DUE.is("wet", x.wet(0, 0), 1);
        x.roof(6, 1);
        for (int column = 0; column < 5; column++) {
            x.opening(column, 0, 2);
        }
        x.lay(5, 0, 1, 0, 1);
        DUE.is("turns at each one", x.drop(0, 0), OFF);
        way(x, 0, 0, 9900, 9910, 9920, 9930, 9940, 50);
        DUE.is("off(5)", x.off(5), 6);
        x.strip(5, 1);
        x.opening(5, 0, 1);
        DUE.is("back at the last but one", x.drop(0, 0), 40);
        way(x, 0, 0, 9900, 9910, 9920, 9930, 9940, 9950);
        DUE.is("from the last", x.drop(5, 0), 50);
        DUE.is("wet(4, 0)", x.wet(4, 0), 5);
        DUE.is("wet(5, 0)", x.wet(5, 0), 1);
        DUE.is("dry", x.dry(), 0);
    }

    private static void refusals() {
        StrawCoats x = new StrawCoats();
        int[][] cells = {{4, 0}, {0, 4}, {-1, 0}, {0, -1}, {Integer.MAX_VALUE, 0}, {0, Integer.MIN_VALUE}};
        for (int[] cell : cells) {
            DUE.is("drop", x.drop(cell[0], cell[1]), UNKNOWN);
            DUE.is("way", x.way(cell[0], cell[1], 0), UNKNOWN);
            DUE.is("way below 0", x.way(cell[0], cell[1], -1), UNKNOWN);
            DUE.is("wet", x.wet(cell[0], cell[1]), UNKNOWN);
        }
        DUE.is("off(4)", x.off(4), UNKNOWN);
        DUE.is("off(-1)", x.off(-1), UNKNOWN);
    }
}
