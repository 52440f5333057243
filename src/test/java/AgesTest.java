/** Promises 24 to 28: grew, over, when, wrong, ways. */
public final class AgesTest {
    private static final Due DUE = new Due("AgesTest");
    private static final int UNKNOWN = -1, BAD = -2, LATE = -3, NONE = -9;

    public static void main(String[] args) {
        grew();
        over();
        when();
        wrong();
        wrongIsTheFirst();
        ways();
        waysRefused();
        DUE.end();
    }

    private static void grew() {
        StrawCoats x = new StrawCoats();
        DUE.is("grew(5, 3, 3)", x.grew(5, 3, 3), 99);
        DUE.is("grew(5, 0, 99)", x.grew(5, 0, 99), 303);
        DUE.is("grew(5, 99, 99)", x.grew(5, 99, 99), 99);
        DUE.is("grew(5, 98, 99)", x.grew(5, 98, 99), 9999);
        DUE.is("grew(6, 0, 1)", x.grew(6, 0, 1), UNKNOWN);
        DUE.is("grew(-1, 0, 1)", x.grew(-1, 0, 1), UNKNOWN);
        DUE.is("unknown ahead of bad", x.grew(6, 2, 1), UNKNOWN);
        DUE.is("grew(0, 1, 0)", x.grew(0, 1, 0), BAD);
        DUE.is("grew(0, -1, 0)", x.grew(0, -1, 0), BAD);
        DUE.is("grew(0, 0, 100)", x.grew(0, 0, 100), BAD);
        DUE.is("grew(0, 100, 100)", x.grew(0, 100, 100), BAD);
        DUE.is("refused ones change nothing", x.grew(0, 1, 2), 99);
    }

    private static void over() {
        StrawCoats x = new StrawCoats();
        x.lay(0, 2, 2, 0, 1);
        x.lay(0, 1, 2, 0, 2);
        x.lay(1, 2, 2, 0, 3);
        x.lay(0, 3, 1, 0, 1);
        DUE.is("over(1, 0)", x.over(1, 0), 1);
        DUE.is("over(0, 1)", x.over(0, 1), 0);
        DUE.is("over(0, 0)", x.over(0, 0), 0);
        DUE.is("another column", x.over(2, 0), 0);
        DUE.is("no cell of both", x.over(3, 0), 0);
        DUE.is("over(4, 0)", x.over(4, 0), UNKNOWN);
        DUE.is("over(0, 4)", x.over(0, 4), UNKNOWN);
        DUE.is("over(-1, 0)", x.over(-1, 0), UNKNOWN);
        DUE.is("over(0, -1)", x.over(0, -1), UNKNOWN);
        x.wear(0, 1, 2);
        x.years(1);
        DUE.is("worn away where both lay", x.over(1, 0), 0);
        x.strip(0, 9);
        DUE.is("nothing is left", x.over(1, 0), 0);
    }

    private static void when() {
        StrawCoats x = new StrawCoats();
        x.grew(0, 10, 30);
        x.grew(1, 5, 20);
        x.grew(2, 0, 25);
        x.lay(0, 3, 2, 0, 1);
        x.lay(0, 2, 2, 1, 1);
        x.lay(0, 1, 2, 2, 1);
        x.lay(1, 1, 1, 0, 1);
        int[] earliest = {10, 10, 10, 10};
        int[] latest = {20, 20, 25, 30};
        for (int bundle = 0; bundle < 4; bundle++) {
            DUE.is("earliest " + bundle, x.when(bundle, false), earliest[bundle]);
            DUE.is("latest " + bundle, x.when(bundle, true), latest[bundle]);
        }
        DUE.is("when(4)", x.when(4, true), UNKNOWN);
        DUE.is("when(-1)", x.when(-1, false), UNKNOWN);
        x.strip(0, 1);
        DUE.is("nothing is left", x.when(2, false), LATE);
        x.grew(1, 0, 9);
        DUE.is("all have none by a wrong one", x.when(3, true), NONE);
        DUE.is("late ahead of none", x.when(2, true), LATE);
        x.grew(1, 0, 10);
        DUE.is("one year alone", x.when(0, true), 10);
        DUE.is("one year alone", x.when(1, false), 10);
    }

    private static void wrong() {
        StrawCoats x = new StrawCoats();
        DUE.is("none laid", x.wrong(), NONE);
        x.grew(0, 20, 30);
        x.grew(1, 10, 19);
        x.lay(0, 1, 2, 0, 1);
        x.lay(1, 1, 2, 1, 1);
        DUE.is("apart", x.wrong(), NONE);
        x.lay(0, 0, 1, 1, 2);
        DUE.is("over one that grew later", x.wrong(), 2);
        x.years(1);
        DUE.is("still over it", x.wrong(), 2);
        x.grew(1, 10, 20);
        DUE.is("in the same year", x.wrong(), NONE);
        x.grew(1, 10, 19);
        DUE.is("wrong again", x.wrong(), 2);
        x.years(1);
        DUE.is("no more over it", x.wrong(), NONE);
    }

    private static void wrongIsTheFirst() {
        StrawCoats x = new StrawCoats();
        x.grew(0, 50, 60);
        x.grew(1, 0, 99);
        x.grew(2, 40, 49);
        x.lay(0, 3, 2, 0, 1);
        x.lay(0, 2, 2, 1, 1);
        x.lay(0, 1, 2, 2, 1);
        x.lay(0, 3, 1, 2, 1);
        DUE.is("by one between", x.wrong(), 2);
        DUE.is("when of all", x.when(1, true), NONE);
        x.strip(0, 1);
        DUE.is("still", x.wrong(), 2);
        x.strip(0, 1);
        DUE.is("stripped", x.wrong(), NONE);
        DUE.is("when again", x.when(1, true), 99);
        DUE.is("when again", x.when(0, true), 60);
    }

    private static void ways() {
        StrawCoats x = new StrawCoats();
        DUE.is("no bundles", x.ways(0), 1);
        for (int sort = 0; sort < 6; sort++) {
            x.grew(sort, 10 * sort, 10 * sort + 9);
        }
        x.lay(0, 3, 1, 0, 1);
        DUE.is("one", x.ways(0), 10);
        x.lay(0, 2, 1, 0, 1);
        DUE.is("two apart", x.ways(0), 100);
        x.lay(0, 3, 2, 0, 1);
        DUE.is("one over both", x.ways(0), 385);
        x.lay(1, 3, 1, 0, 1);
        x.lay(1, 3, 1, 0, 1);
        x.lay(1, 3, 1, 0, 1);
        x.lay(1, 3, 1, 0, 1);
        x.lay(1, 3, 1, 0, 1);
        DUE.is("five in a chain", x.ways(1), 2002);
        x.lay(2, 3, 1, 0, 1);
        x.lay(2, 2, 1, 5, 1);
        x.lay(2, 1, 1, 3, 1);
        x.lay(2, 0, 1, 1, 1);
        x.lay(2, 0, 1, 4, 1);
        DUE.is("five, two of them told apart by their sorts", x.ways(2), 100000);
        x.lay(3, 0, 1, 1, 1);
        x.lay(3, 0, 1, 0, 1);
        DUE.is("in no way", x.ways(3), 0);
        x.strip(3, 1);
        DUE.is("what lies", x.ways(3), 10);
    }

    private static void waysRefused() {
        StrawCoats x = new StrawCoats();
        DUE.is("ways(4)", x.ways(4), UNKNOWN);
        DUE.is("ways(-1)", x.ways(-1), UNKNOWN);
        x.lay(0, 0, 1, 0, 9);
        DUE.is("a hundred years", x.ways(0), LATE);
        x.grew(0, 0, 10);
        DUE.is("eleven years", x.ways(0), LATE);
        x.grew(0, 0, 9);
        DUE.is("ten years", x.ways(0), 10);
        x.grew(0, 90, 99);
        DUE.is("the last ten years", x.ways(0), 10);
        for (int bundle = 1; bundle < 6; bundle++) {
            x.lay(0, 3, 1, 0, 1);
        }
        DUE.is("six", x.ways(0), LATE);
        DUE.is("another column", x.ways(1), 1);
        x.strip(0, 1);
        DUE.is("five", x.ways(0), 7150);
    }
}
