/** Promises 29 to 32: burnt, worst, clear, offer. */
public final class FireTest {
    private static final Due DUE = new Due("FireTest");
    private static final int UNKNOWN = -1, BAD = -2, NONE = -9;

    public static void main(String[] args) {
        burnt();
        burntByWinds();
        burntAtTheEdges();
        fireRefused();
        worst();
        clear();
        offer();
        offerOfOneLaying();
        offerOfNoWay();
        offerRefused();
        DUE.end();
    }

    private static void straw(StrawCoats x, int... cells) {
        for (int cell : cells) {
            x.lay(cell / 10, cell % 10, 1, 0, 1);
        }
    }

    private static void burnt() {
        StrawCoats x = new StrawCoats();
        DUE.is("bare", x.burnt(0, 0, 0), 0);
        straw(x, 0, 1, 11, 21, 33, 20);
        DUE.is("by sides", x.burnt(0, 0, 0), 5);
        DUE.is("back as well", x.burnt(2, 0, 0), 5);
        DUE.is("not across corners", x.burnt(3, 3, 0), 1);
        DUE.is("no straw", x.burnt(1, 0, 0), 0);
        DUE.is("asking burns nothing", x.weight(0), 2);
        x.years(1);
        DUE.is("worn away", x.burnt(0, 0, 0), 0);
    }

    private static void burntByWinds() {
        StrawCoats x = new StrawCoats();
        straw(x, 0, 2, 20, 22);
        int[][] due = {{1, 2, 2, 1, 1}, {1, 2, 1, 1, 2}, {1, 1, 2, 2, 1}, {1, 1, 1, 2, 2}};
        int[] cells = {0, 2, 20, 22};
        for (int k = 0; k < 4; k++) {
            for (int wind = 0; wind <= 4; wind++) {
                DUE.is("burnt " + cells[k] + " by " + wind, x.burnt(cells[k] / 10, cells[k] % 10, wind), due[k][wind]);
            }
        }
        x.roof(6, 6);
        straw(x, 0, 30, 3);
        for (int wind = 0; wind <= 4; wind++) {
            DUE.is("not over two", x.burnt(0, 0, wind), 1);
        }
        straw(x, 1, 5);
        DUE.is("from each that burns", x.burnt(0, 0, 2), 4);
    }

    private static void burntAtTheEdges() {
        StrawCoats x = new StrawCoats();
        x.roof(6, 6);
        straw(x, 5, 4, 10, 11, 54, 55, 45);
        DUE.is("rows do not run on", x.burnt(0, 5, 2), 2);
        DUE.is("nor back", x.burnt(1, 0, 4), 2);
        DUE.is("nor columns", x.burnt(5, 5, 1), 3);
        DUE.is("nor back", x.burnt(0, 4, 3), 2);
        x.roof(6, 6);
        for (int cell = 0; cell < 36; cell++) {
            straw(x, 10 * (cell / 6) + cell % 6);
        }
        for (int wind = 0; wind <= 4; wind++) {
            DUE.is("all", x.burnt(3, 3, wind), 36);
        }
        x.roof(6, 6);
        for (int column = 0; column < 6; column++) {
            for (int row = 0; row < 6; row++) {
                if (column % 2 == 0 || row == (column % 4 == 1 ? 5 : 0)) {
                    straw(x, 10 * column + row);
                }
            }
        }
        DUE.is("a long way round", x.burnt(0, 0, 0), 21);
    }

    private static void fireRefused() {
        StrawCoats x = new StrawCoats();
        DUE.is("burnt column", x.burnt(4, 0, 0), UNKNOWN);
        DUE.is("burnt row", x.burnt(0, -1, 0), UNKNOWN);
        DUE.is("unknown ahead of bad", x.burnt(0, 4, 5), UNKNOWN);
        DUE.is("burnt wind 5", x.burnt(0, 0, 5), BAD);
        DUE.is("burnt wind -1", x.burnt(0, 0, -1), BAD);
        DUE.is("worst wind 5", x.worst(5), BAD);
        DUE.is("worst wind -1", x.worst(-1), BAD);
        DUE.is("clear wind 5", x.clear(5), BAD);
        DUE.is("clear wind -1", x.clear(-1), BAD);
        for (int wind = 0; wind <= 4; wind++) {
            DUE.is("worst of no straw", x.worst(wind), NONE);
            DUE.is("clear of no straw", x.clear(wind), NONE);
        }
    }

    private static void worst() {
        StrawCoats x = new StrawCoats();
        straw(x, 3, 10, 30, 31);
        DUE.is("the most", x.worst(0), 30);
        DUE.is("by wind 1", x.worst(1), 10);
        DUE.is("by wind 3", x.worst(3), 30);
        straw(x, 2);
        DUE.is("of like ones the first", x.worst(0), 2);
    }

    private static void clear() {
        StrawCoats x = new StrawCoats();
        x.roof(5, 1);
        straw(x, 20);
        DUE.is("the only one", x.clear(0), 20);
        straw(x, 0, 10, 30, 40);
        DUE.is("the middle", x.clear(0), 20);
        DUE.is("the wind carries over it", x.clear(1), 0);
        DUE.is("from the other end", x.clear(3), 0);
        DUE.is("it is only asked", x.count(3), 5);
        x.roof(5, 1);
        straw(x, 10, 20, 40);
        DUE.is("of like ones the first with straw", x.clear(0), 10);
        x.roof(6, 2);
        straw(x, 10, 11, 40, 41);
        DUE.is("where none helps, the first with straw", x.clear(0), 10);
    }

    private static void offer() {
        StrawCoats x = new StrawCoats();
        x.roof(2, 1);
        DUE.is("one laying for one year", x.offer(3, 2, 1, 4, 1), 2 * 11);
        DUE.is("up to the year of the leak", x.offer(3, 2, 1, 4, 4), 2 * 11);
        DUE.is("once more", x.offer(3, 2, 1, 4, 5), 4 * 11);
        DUE.is("8", x.offer(3, 2, 1, 4, 8), 4 * 11);
        DUE.is("9", x.offer(3, 2, 1, 4, 9), 6 * 11);
        DUE.is("99", x.offer(99, 99, 1, 9, 99), 22 * 990);
        DUE.is("no price", x.offer(0, 0, 1, 9, 99), 0);
        DUE.is("units alone", x.offer(0, 1, 1, 9, 1), 18);
        DUE.is("bundles alone", x.offer(1, 0, 1, 9, 1), 2);
        x.wear(1, 0, 3);
        DUE.is("by wear", x.offer(1, 0, 1, 9, 7), 2 * 3);
        x.lay(0, 0, 1, 0, 1);
        DUE.is("bare, whatever lies", x.offer(1, 0, 1, 9, 7), 2 * 3);
        DUE.is("it lies as it lay", x.weight(0), 1);
        DUE.is("none were laid", x.count(2), 1);
        x.roof(2, 4);
        DUE.is("by pitch 2", x.offer(1, 0, 3, 1, 1), 4);
        x.pitch(1);
        DUE.is("by pitch 1", x.offer(1, 0, 3, 1, 1), 4);
        x.roof(2, 5);
        DUE.is("by pitch 1, five rows", x.offer(1, 0, 3, 1, 1), 6);
    }

    private static void offerOfOneLaying() {
        StrawCoats x = new StrawCoats();
        x.roof(1, 1);
        x.opening(0, 0, 2);
        DUE.is("nothing is needed", x.offer(9, 9, 1, 1, 99), 0);
    }

    private static void offerOfNoWay() {
        StrawCoats x = new StrawCoats();
        DUE.is("too short", x.offer(1, 1, 1, 1, 1), NONE);
        x.roof(2, 1);
        x.opening(0, 0, 2);
        DUE.is("in the next column it is laid then", x.offer(1, 0, 1, 2, 2), 1);
        x.opening(1, 0, 1);
        DUE.is("no way", x.offer(1, 0, 1, 2, 2), NONE);
    }

    private static void offerRefused() {
        StrawCoats x = new StrawCoats();
        int[][] bad = {{-1, 0, 1, 1, 1}, {100, 0, 1, 1, 1}, {0, -1, 1, 1, 1}, {0, 100, 1, 1, 1}, {0, 0, 0, 1, 1},
            {0, 0, 4, 1, 1}, {0, 0, 1, 0, 1}, {0, 0, 1, 10, 1}, {0, 0, 1, 1, 0}, {0, 0, 1, 1, 100}};
        for (int[] a : bad) {
            DUE.is("offer", x.offer(a[0], a[1], a[2], a[3], a[4]), BAD);
        }
    }
}
