/** Terms 1 and promises 6 to 11: bundles, how they lie, what is told of them. */
final class LayingSentences {
    private LayingSentences() {
    }

    static void tell(Sentences document) {
        bundle(document);
        whereItLies(document);
        numbers(document);
        lay(document);
        layRefused(document);
        strip(document);
        about(document);
        left(document);
        top(document);
        depth(document);
    }

    private static void bundle(Sentences d) {
        d.part("Terms 1");
        d.says("A BUNDLE is laid at a COLUMN and a ROW with a LENGTH (1 .. 3), a SORT (0 .. 5), a THICKNESS (1 .. 9):", """
            lay 0 0 1 0 1 = 0; lay 3 3 3 5 9 = 1; about 1 0 = 3; about 1 1 = 3; about 1 2 = 3; about 1 3 = 5; about 1 4 = 9
            lay 3 3 0 5 9 = BAD; lay 3 3 4 5 9 = BAD; lay 3 3 3 5 0 = BAD; lay 3 3 3 5 10 = BAD
            lay 3 3 3 -1 9 = UNKNOWN; lay 3 3 3 6 9 = UNKNOWN; count 2 = 2
            """);
        d.says("it lies on that CELL and those below it in the COLUMN, as many as its LENGTH,", """
            roof 2 6 = 12; lay 1 5 1 0 2 = 0; left 0 5 = 2; left 0 4 = 0
            lay 1 4 2 0 3 = 1; left 1 5 = 0; left 1 4 = 3; left 1 3 = 3; left 1 2 = 0
            lay 1 4 3 0 4 = 2; left 2 5 = 0; left 2 4 = 4; left 2 3 = 4; left 2 2 = 4; left 2 1 = 0; left 2 0 = 0
            top 0 4 = NONE; depth 1 4 0 = 2; depth 1 4 1 = 7
            """);
    }

    private static void whereItLies(Sentences d) {
        d.part("Terms 1");
        d.says("but not on an OPENING nor beyond one (it ends ahead of it),", """
            opening 1 1 1 = 0; lay 1 3 3 0 2 = 0; left 0 3 = 2; left 0 2 = 2; left 0 1 = 0; left 0 0 = 0; about 0 5 = 4
            lay 1 2 3 0 5 = 1; left 1 2 = 5; left 1 1 = 0; left 1 0 = 0; about 1 5 = 5; top 1 1 = NONE; top 1 0 = NONE
            lay 1 0 3 0 7 = 2; left 2 0 = 7; lay 1 1 1 0 1 = LATE; opening 0 1 1 = 0; lay 2 2 3 0 1 = 3; left 3 0 = 1
            """);
        d.says("nor beyond the eaves.", """
            lay 2 0 3 0 4 = 0; about 0 5 = 4; lay 2 1 3 0 4 = 1; about 1 5 = 8; lay 2 2 3 0 4 = 2; about 2 5 = 12
            lay 2 0 1 0 4 = 3; about 3 5 = 4; left 0 3 = 0; top 1 3 = NONE; weight 1 = 0; weight 2 = 28
            """);
        d.says("at each CELL a BUNDLE has its THICKNESS left;", """
            lay 0 3 3 0 9 = 0; left 0 3 = 9; left 0 2 = 9; left 0 1 = 9; left 0 0 = 0
            lay 0 0 1 0 1 = 1; left 1 0 = 1; left 1 1 = 0
            """);
        d.says("where nothing is left, it does not lie any more.", """
            lay 0 2 3 0 2 = 0; wear 0 1 2 = 1; years 1 = 4; left 0 1 = 0; left 0 2 = 1; top 0 1 = NONE; top 0 2 = 0
            depth 0 1 0 = 0; count 3 = 1; burnt 0 1 0 = 0; drop 0 1 = 1; drop 0 2 = 1; opening 0 1 1 = 0
            years 1 = 2; count 3 = 0; strip 0 1 = 0; years 1 = 0
            """);
    }

    private static void numbers(Sentences d) {
        d.part("Terms 1");
        d.says("BUNDLES 0, 1, .. (40 at most) are numbered as they were laid;", """
            lay 3 0 1 0 1 = 0; lay 0 3 1 0 1 = 1; lay 0 0 9 0 1 = BAD; lay 1 1 1 0 1 = 2; lay 2 1 1 0 1 = 3 .. 39
            lay 2 1 1 0 1 = FULL; count 2 = 40; top 2 1 = 39; depth 2 1 0 = 37; about 39 0 = 2; about 40 0 = UNKNOWN
            """);
        d.says("THE TOP of a CELL is the BUNDLE with the greatest number that lies on it.", """
            lay 0 2 3 0 1 = 0; lay 0 1 2 0 1 = 1; lay 0 0 1 0 1 = 2; top 0 2 = 0; top 0 1 = 1; top 0 0 = 2; top 0 3 = NONE
            years 1 = 3; top 0 2 = NONE; top 0 1 = 0; top 0 0 = 1; years 1 = 2; top 0 0 = 0; years 1 = 1; top 0 0 = NONE
            """);
        d.says("(A BUNDLE is taken away by stripping alone; the others keep their numbers.)", """
            lay 0 0 1 0 1 = 0; lay 1 0 1 0 1 = 1; lay 0 0 1 0 9 = 2; lay 2 0 1 0 9 = 3
            strip 0 1 = 1; about 2 5 = 0; top 2 0 = 3; top 1 0 = 1; top 0 0 = 0; count 2 = 4; count 3 = 3
            years 1 = 3; count 2 = 4; count 3 = 1; about 0 4 = 1; lay 0 0 1 0 1 = 4; top 2 0 = 3
            """);
    }

    private static void lay(Sentences d) {
        d.part("Promise 6");
        d.says("A BUNDLE is laid: its number.", """
            lay 0 0 1 0 1 = 0; lay 0 0 1 0 1 = 1; lay 3 3 3 5 9 = 2; lay 0 3 2 5 1 = 3; lay 3 0 2 0 9 = 4; count 2 = 5
            strip 0 9 = 3; lay 0 0 1 0 1 = 5; roof 6 6 = 36; lay 5 5 3 3 3 = 0; lay 0 5 3 3 3 = 1; lay 5 0 3 3 3 = 2
            """);
        d.says("FULL: 40 were laid.", """
            lay 0 0 1 0 1 = 0 .. 38; lay 3 3 3 5 9 = 39; lay 0 0 1 0 1 = FULL; lay 3 3 3 5 9 = FULL; count 2 = 40
            weight 3 = 27; weight 0 = 39; strip 0 9 = 9; lay 0 0 1 0 1 = FULL; years 99 = 57; lay 0 0 1 0 1 = FULL
            count 3 = 0; keep 0 = 40; again 0 = 40; lay 0 0 1 0 1 = FULL; roof 4 4 = 16; lay 0 0 1 0 1 = 0
            """);
        d.again("""
            lay 0 0 1 0 1 = 0; keep 0 = 1; lay 0 0 1 0 1 = 1 .. 39; lay 0 0 1 0 1 = FULL
            lay 4 0 1 0 1 = UNKNOWN; lay 0 0 1 6 1 = UNKNOWN; lay 0 0 0 0 1 = BAD; lay 0 0 1 0 10 = BAD
            opening 1 1 1 = 0; lay 1 1 1 0 1 = LATE; again 0 = 1; lay 0 0 1 0 1 = 1
            """);
    }

    private static void layRefused(Sentences d) {
        d.part("Promise 6");
        d.says("UNKNOWN: column, row, sort;", """
            lay -1 0 1 0 1 = UNKNOWN; lay 4 0 1 0 1 = UNKNOWN; lay 0 -1 1 0 1 = UNKNOWN; lay 0 4 1 0 1 = UNKNOWN
            lay 0 0 1 -1 1 = UNKNOWN; lay 0 0 1 6 1 = UNKNOWN; lay MIN 0 1 0 1 = UNKNOWN; lay 0 MAX 1 0 1 = UNKNOWN
            lay 0 0 1 MAX 1 = UNKNOWN; lay 0 0 1 MIN 1 = UNKNOWN; lay 4 0 0 0 1 = UNKNOWN; lay 0 4 1 0 0 = UNKNOWN
            lay 0 0 4 6 1 = UNKNOWN; lay 0 0 1 -1 10 = UNKNOWN; count 2 = 0; lay 0 0 1 0 1 = 0; lay 0 0 1 5 1 = 1
            """);
        d.says("BAD: length, thickness;", """
            lay 0 3 0 0 1 = BAD; lay 0 3 4 0 1 = BAD; lay 0 3 -1 0 1 = BAD; lay 0 3 1 0 0 = BAD; lay 0 3 1 0 10 = BAD
            lay 0 3 MAX 0 1 = BAD; lay 0 3 MIN 0 1 = BAD; lay 0 3 1 0 MAX = BAD; lay 0 3 1 0 MIN = BAD
            lay 0 3 1 0 -1 = BAD; count 2 = 0; opening 0 3 1 = 0; lay 0 3 4 0 1 = BAD; lay 0 3 1 0 0 = BAD
            """);
        d.says("LATE: the CELL is an OPENING;", """
            opening 0 3 1 = 0; opening 1 1 2 = 0; lay 0 3 1 0 1 = LATE; lay 1 1 3 5 9 = LATE; count 2 = 0
            lay 0 3 1 6 1 = UNKNOWN; lay 1 2 3 0 1 = 0; lay 1 0 1 0 1 = 1; opening 0 3 0 = 1; lay 0 3 1 0 1 = 2
            """);
    }

    private static void strip(Sentences d) {
        d.part("Promise 7");
        d.says("A COLUMN is STRIPPED of k: how many were gone by it.", """
            strip 0 1 = 0; strip 3 9 = 0; lay 1 0 1 0 1 = 0; lay 0 0 1 0 1 = 1 .. 11; lay 0 3 1 0 1 = 12
            strip 0 9 = 9; count 3 = 4; top 0 0 = 3; top 0 3 = NONE; strip 0 1 = 1; top 0 0 = 2; strip 0 9 = 2
            strip 0 9 = 0; weight 0 = 0; top 1 0 = 0; strip 1 9 = 1; count 3 = 0; count 2 = 13
            """);
        d.again("""
            roof 2 6 = 12; lay 1 0 1 0 9 = 0; lay 1 5 1 0 9 = 1; lay 0 5 3 0 9 = 2; lay 1 0 1 0 9 = 3; lay 1 5 1 0 9 = 4
            strip 0 1 = 1; left 1 5 = 9; left 3 0 = 9; weight 0 = 0; weight 1 = 36; strip 1 1 = 1; left 3 0 = 9; left 1 5 = 9
            """);
        d.says("UNKNOWN;", """
            strip -1 1 = UNKNOWN; strip 4 1 = UNKNOWN; strip 4 0 = UNKNOWN; strip -1 10 = UNKNOWN; strip MAX 1 = UNKNOWN
            strip MIN 1 = UNKNOWN; lay 3 0 1 0 1 = 0; strip 3 1 = 1
            """);
        d.says("BAD: k (1 .. 9).", """
            lay 0 0 1 0 1 = 0 .. 9; strip 0 0 = BAD; strip 0 10 = BAD; strip 0 -1 = BAD; strip 0 MIN = BAD
            strip 0 MAX = BAD; count 3 = 10; strip 0 1 = 1; strip 0 9 = 9
            """);
    }

    private static void about(Sentences d) {
        d.part("Promise 8");
        d.says("Of a BUNDLE its COLUMN (what = 0), ROW (1), LENGTH (2), SORT (3), THICKNESS when it was laid (4), all"
                + " that is left of it (5).", """
            lay 2 3 3 5 8 = 0; lay 0 1 2 4 9 = 1
            about 0 0 = 2; about 0 1 = 3; about 0 2 = 3; about 0 3 = 5; about 0 4 = 8; about 0 5 = 24
            about 1 0 = 0; about 1 1 = 1; about 1 2 = 2; about 1 3 = 4; about 1 4 = 9; about 1 5 = 18
            years 3 = 15; about 0 4 = 8; about 0 5 = 15; about 1 5 = 12; years 5 = 25; about 0 5 = 0; about 1 5 = 2
            strip 0 1 = 1; about 1 0 = 0; about 1 1 = 1; about 1 2 = 2; about 1 3 = 4; about 1 4 = 9; about 1 5 = 0
            """);
        d.again("opening 1 2 1 = 0; lay 1 3 3 0 2 = 0; about 0 2 = 3; about 0 5 = 2; lay 1 0 2 0 2 = 1; about 1 2 = 2");
        d.says("UNKNOWN;", """
            about 0 0 = UNKNOWN; about -1 0 = UNKNOWN; lay 0 0 1 0 1 = 0; about 0 0 = 0; about 1 0 = UNKNOWN
            about -1 5 = UNKNOWN; about MIN 0 = UNKNOWN; about MAX 0 = UNKNOWN; about 1 6 = UNKNOWN; about -1 -1 = UNKNOWN
            lay 0 0 1 0 1 = 1 .. 39; about 39 4 = 1; about 40 4 = UNKNOWN
            """);
        d.says("BAD.", """
            lay 0 0 1 0 1 = 0; about 0 -1 = BAD; about 0 6 = BAD; about 0 MIN = BAD; about 0 MAX = BAD; about 0 5 = 1
            """);
    }

    private static void left(Sentences d) {
        d.part("Promise 9");
        d.says("What is left of a BUNDLE at a ROW; 0.", """
            lay 1 2 2 0 3 = 0; lay 1 1 1 0 9 = 1; left 0 0 = 0; left 0 1 = 3; left 0 2 = 3; left 0 3 = 0; left 1 1 = 9
            years 1 = 2; left 0 1 = 3; left 0 2 = 2; left 1 1 = 8; strip 1 1 = 1; left 1 1 = 0; left 0 1 = 3
            roof 6 6 = 36; lay 5 5 3 0 9 = 0; left 0 5 = 9; left 0 3 = 9; left 0 2 = 0; left 0 0 = 0
            """);
        d.says("UNKNOWN.", """
            left 0 0 = UNKNOWN; lay 0 0 1 0 1 = 0; left 0 3 = 0; left 0 4 = UNKNOWN; left 0 -1 = UNKNOWN
            left 1 0 = UNKNOWN; left -1 0 = UNKNOWN; left 0 MAX = UNKNOWN; left MIN 0 = UNKNOWN; left 1 4 = UNKNOWN
            roof 1 2 = 2; lay 0 1 2 0 9 = 0; left 0 1 = 9; left 0 2 = UNKNOWN
            """);
    }

    private static void top(Sentences d) {
        d.part("Promise 10");
        d.says("THE TOP of a CELL; NONE.", """
            top 0 0 = NONE; lay 0 0 1 0 1 = 0; top 0 0 = 0; top 0 1 = NONE; lay 0 2 3 0 1 = 1 .. 39; top 0 0 = 39
            top 0 2 = 39; top 0 3 = NONE; strip 0 1 = 1; top 0 0 = 38; opening 3 3 1 = 0; top 3 3 = NONE
            """);
        d.says("UNKNOWN.", """
            top -1 0 = UNKNOWN; top 4 0 = UNKNOWN; top 0 -1 = UNKNOWN; top 0 4 = UNKNOWN; top MIN 0 = UNKNOWN
            top 0 MAX = UNKNOWN; roof 6 6 = 36; top 5 5 = NONE; top 6 0 = UNKNOWN; top 0 6 = UNKNOWN
            """);
    }

    private static void depth(Sentences d) {
        d.part("Promise 11");
        d.says("How many BUNDLES lie on a CELL (what = 0), how thick they are together (1).", """
            depth 1 1 0 = 0; depth 1 1 1 = 0; lay 1 1 2 0 9 = 0; depth 1 1 0 = 1; depth 1 1 1 = 9; depth 1 2 0 = 0
            lay 1 2 2 0 1 = 1; depth 1 1 0 = 2; depth 1 1 1 = 10; depth 1 0 1 = 9; depth 1 2 1 = 1; depth 0 1 1 = 0
            years 1 = 3; depth 1 1 0 = 1; depth 1 1 1 = 9; depth 1 0 1 = 8; depth 1 2 0 = 0
            roof 1 1 = 1; lay 0 0 1 0 9 = 0 .. 39; depth 0 0 0 = 40; depth 0 0 1 = 360
            """);
        d.says("UNKNOWN;", """
            depth -1 0 0 = UNKNOWN; depth 4 0 0 = UNKNOWN; depth 0 -1 1 = UNKNOWN; depth 0 4 1 = UNKNOWN
            depth MAX 0 0 = UNKNOWN; depth 0 MIN 0 = UNKNOWN; depth 4 0 2 = UNKNOWN; depth 0 -1 -1 = UNKNOWN
            """);
        d.says("BAD.", "depth 0 0 -1 = BAD; depth 0 0 2 = BAD; depth 3 3 MAX = BAD; depth 3 3 MIN = BAD; depth 3 3 1 = 0");
    }
}
