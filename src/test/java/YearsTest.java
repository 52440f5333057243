/** Promises 17 to 23: years, leaks, leakAt, weight, heavy, fewest, proof. */
public final class YearsTest {
    private static final Due DUE = new Due("YearsTest");
    private static final int UNKNOWN = -1, BAD = -2, NONE = -9;

    public static void main(String[] args) {
        years();
        leaks();
        leaksAtMostNinetyNine();
        weightAndHeavy();
        fewest();
        fewestByPitch();
        fewestWithOpenings();
        fewestAsksOfItsColumnAlone();
        proof();
        DUE.end();
    }

    private static void years() {
        StrawCoats x = new StrawCoats();
        DUE.is("bare", x.years(99), 0);
        DUE.is("years(0)", x.years(0), BAD);
        DUE.is("years(100)", x.years(100), BAD);
        DUE.is("years(-1)", x.years(-1), BAD);
        x.lay(0, 1, 2, 0, 5);
        x.lay(0, 0, 1, 0, 2);
        x.wear(0, 0, 3);
        x.wear(0, 1, 2);
        DUE.is("the top alone, no more than is left", x.years(1), 4);
        DUE.is("left(0, 1)", x.left(0, 1), 3);
        DUE.is("left(0, 0)", x.left(0, 0), 5);
        DUE.is("left(1, 0)", x.left(1, 0), 0);
        DUE.is("then what lay under it", x.years(1), 5);
        DUE.is("left(0, 0)", x.left(0, 0), 2);
        DUE.is("the rest", x.years(9), 3);
        DUE.is("count(3)", x.count(3), 0);
    }

    private static void leaks() {
        StrawCoats x = new StrawCoats();
        DUE.is("bare leaks now", x.leaks(), 0);
        DUE.is("bare leakAt", x.leakAt(), 0);
        x.roof(2, 1);
        x.lay(0, 0, 1, 0, 9);
        x.lay(1, 0, 1, 0, 4);
        DUE.is("dry", x.dry(), 1);
        DUE.is("leaks", x.leaks(), 4);
        DUE.is("leakAt", x.leakAt(), 10);
        x.wear(0, 0, 3);
        DUE.is("leaks by wear", x.leaks(), 3);
        DUE.is("leakAt by wear", x.leakAt(), 0);
        DUE.is("only asked", x.weight(0), 9);
        x.years(3);
        DUE.is("leaks then", x.leaks(), 0);
        DUE.is("dry then", x.dry(), 0);
        x.roof(2, 2);
        x.lay(0, 1, 2, 0, 1);
        x.lay(1, 1, 2, 0, 2);
        DUE.is("first by column, then row", x.leakAt(), 0);
        DUE.is("leaks", x.leaks(), 1);
        x.lay(0, 0, 1, 0, 1);
        x.lay(1, 1, 2, 0, 9);
        DUE.is("first by row", x.leakAt(), 1);
    }

    private static void leaksAtMostNinetyNine() {
        StrawCoats x = new StrawCoats();
        x.roof(1, 1);
        for (int bundle = 0; bundle < 11; bundle++) {
            x.lay(0, 0, 1, 0, 9);
        }
        DUE.is("99", x.leaks(), 99);
        DUE.is("leakAt", x.leakAt(), 0);
        x.lay(0, 0, 1, 0, 1);
        DUE.is("100", x.leaks(), NONE);
        DUE.is("leakAt", x.leakAt(), NONE);
        x.roof(1, 1);
        x.opening(0, 0, 1);
        DUE.is("never", x.leaks(), NONE);
        DUE.is("nowhere", x.leakAt(), NONE);
    }

    private static void weightAndHeavy() {
        StrawCoats x = new StrawCoats();
        x.lay(2, 3, 3, 0, 2);
        x.lay(2, 0, 3, 0, 7);
        x.lay(1, 0, 1, 0, 9);
        x.lay(2, 2, 2, 0, 4);
        DUE.is("weight(2)", x.weight(2), 21);
        DUE.is("weight(1)", x.weight(1), 9);
        DUE.is("weight(0)", x.weight(0), 0);
        int[][] due = {{999, 0}, {21, 0}, {20, 1}, {13, 1}, {12, 2}, {6, 2}, {5, 3}, {0, 3}};
        for (int[] d : due) {
            DUE.is("heavy(2, " + d[0] + ")", x.heavy(2, d[0]), d[1]);
        }
        DUE.is("nothing is stripped by it", x.weight(2), 21);
        x.years(1);
        DUE.is("weight of what is left", x.weight(2), 17);
        x.strip(2, 2);
        DUE.is("weight of what lies", x.weight(2), 5);
        DUE.is("weight(4)", x.weight(4), UNKNOWN);
        DUE.is("weight(-1)", x.weight(-1), UNKNOWN);
        DUE.is("heavy(4, 0)", x.heavy(4, 0), UNKNOWN);
        DUE.is("heavy(0, -1)", x.heavy(0, -1), BAD);
        DUE.is("heavy(0, 1000)", x.heavy(0, 1000), BAD);
        DUE.is("unknown ahead of bad", x.heavy(-1, -1), UNKNOWN);
        DUE.is("heavy(0, 0)", x.heavy(0, 0), 0);
    }

    private static void fewest() {
        StrawCoats x = new StrawCoats();
        x.roof(2, 1);
        DUE.is("one row", x.fewest(0, 1), 1);
        x.roof(2, 2);
        DUE.is("two rows by 1", x.fewest(0, 1), NONE);
        DUE.is("two rows by 2", x.fewest(0, 2), 2);
        x.roof(2, 6);
        DUE.is("six rows by 3", x.fewest(1, 3), 1 << 5 | 1 << 3 | 1 << 1);
        DUE.is("six rows by 2", x.fewest(1, 2), 62);
        x.lay(1, 5, 3, 0, 9);
        DUE.is("as if it were bare", x.fewest(1, 3), 42);
        DUE.is("it is only asked", x.count(2), 1);
        DUE.is("and stays", x.weight(1), 27);
        DUE.is("fewest(2, 1)", x.fewest(2, 1), UNKNOWN);
        DUE.is("fewest(-1, 1)", x.fewest(-1, 1), UNKNOWN);
        DUE.is("fewest(0, 0)", x.fewest(0, 0), BAD);
        DUE.is("fewest(0, 4)", x.fewest(0, 4), BAD);
        DUE.is("unknown ahead of bad", x.fewest(2, 4), UNKNOWN);
    }

    private static void fewestByPitch() {
        StrawCoats x = new StrawCoats();
        x.roof(1, 5);
        DUE.is("pitch 2 by 3", x.fewest(0, 3), 1 << 4 | 1 << 2);
        x.pitch(1);
        DUE.is("pitch 1 by 3", x.fewest(0, 3), 1 << 4 | 1 << 3 | 1 << 2);
        DUE.is("pitch 1 by 2", x.fewest(0, 2), NONE);
        x.roof(1, 2);
        DUE.is("pitch 1, two rows by 2", x.fewest(0, 2), 2);
    }

    private static void fewestWithOpenings() {
        StrawCoats x = new StrawCoats();
        x.roof(1, 2);
        x.opening(0, 0, 1);
        x.opening(0, 1, 1);
        DUE.is("all openings: none is needed", x.fewest(0, 1), 0);
        x.opening(0, 1, 0);
        DUE.is("one cell above an opening", x.fewest(0, 3), 2);
        x.roof(1, 4);
        x.opening(0, 2, 2);
        DUE.is("above and below", x.fewest(0, 2), 1 << 3 | 1 << 1);
        DUE.is("proof of it", x.proof(0, 2, 10), 1);
        DUE.is("not on an opening", x.proof(0, 2, 14), 0);
        DUE.is("of like ones the least", x.fewest(0, 3), 10);
    }

    private static void fewestAsksOfItsColumnAlone() {
        StrawCoats x = new StrawCoats();
        x.roof(2, 1);
        x.opening(0, 0, 2);
        DUE.is("in beside it, not in it", x.fewest(0, 1), 0);
        DUE.is("dry", x.dry(), 0);
        x.opening(1, 0, 1);
        DUE.is("there and back", x.fewest(0, 1), NONE);
        x.opening(0, 0, 0);
        x.lay(0, 0, 1, 0, 1);
        DUE.is("others as they are", x.fewest(1, 1), 0);
        DUE.is("it stands at both", x.fewest(0, 1), 1);
    }

    private static void proof() {
        StrawCoats x = new StrawCoats();
        x.roof(2, 3);
        DUE.is("proof(0, 3, 4)", x.proof(0, 3, 4), 1);
        DUE.is("proof(0, 2, 6)", x.proof(0, 2, 6), 1);
        DUE.is("proof(0, 2, 7)", x.proof(0, 2, 7), 1);
        DUE.is("proof(0, 2, 4)", x.proof(0, 2, 4), 0);
        DUE.is("proof(0, 1, 7)", x.proof(0, 1, 7), 0);
        DUE.is("proof(0, 1, 0)", x.proof(0, 1, 0), 0);
        DUE.is("proof(0, 3, 8)", x.proof(0, 3, 8), BAD);
        DUE.is("proof(0, 3, -1)", x.proof(0, 3, -1), BAD);
        DUE.is("proof(0, 4, 4)", x.proof(0, 4, 4), BAD);
        DUE.is("proof(0, 0, 4)", x.proof(0, 0, 4), BAD);
        DUE.is("proof(2, 3, 4)", x.proof(2, 3, 4), UNKNOWN);
        DUE.is("unknown ahead of bad", x.proof(-1, 0, 99), UNKNOWN);
        x.lay(0, 2, 1, 0, 5);
        DUE.is("as if it were bare", x.proof(0, 3, 4), 1);
        x.pitch(1);
        DUE.is("by pitch 1", x.proof(0, 2, 6), 0);
        x.opening(0, 1, 1);
        DUE.is("a way with an opening", x.proof(0, 3, 6), 0);
        DUE.is("a way without it", x.proof(0, 3, 5), 1);
    }
}
