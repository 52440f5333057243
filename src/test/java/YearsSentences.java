/** Terms 3 and promises 17 to 23: years, leaks, weight, the fewest bundles. */
final class YearsSentences {
    /** Eleven bundles of nine on a roof of one cell: ninety-nine years of straw. */
    private static final String NINETY_NINE = "roof 1 1 = 1; lay 0 0 1 0 9 = 0 .. 10; ";
    /** Forty bundles of twenty-seven in column 1: more than any bound. */
    private static final String HEAVIEST = "lay 1 2 3 0 9 = 0 .. 39; weight 1 = 1080; ";

    private YearsSentences() {
    }

    static void tell(Sentences document) {
        aYear(document);
        leaksFirst(document);
        weightTerms(document);
        wayTerms(document);
        fewestTerms(document);
        years(document);
        leaks(document);
        leakAt(document);
        weight(document);
        heavy(document);
        fewest(document);
        proof(document);
    }

    private static void aYear(Sentences d) {
        d.part("Terms 3");
        d.says("A YEAR goes by: the TOP of each CELL loses there as much as the WEAR of the CELL (no more than is left),"
                + " all at once.", """
            lay 0 1 2 0 5 = 0; lay 0 0 1 0 2 = 1; wear 0 0 3 = 1; wear 0 1 2 = 1; years 1 = 4
            left 0 0 = 5; left 0 1 = 3; left 1 0 = 0; years 1 = 5; left 0 0 = 2; left 0 1 = 1; years 1 = 3; years 1 = 0
            """);
        d.again("""
            roof 6 6 = 36; lay 0 0 1 0 9 = 0; lay 5 5 1 0 9 = 1; lay 0 5 1 0 9 = 2; lay 5 0 1 0 9 = 3; wear 5 5 3 = 1
            years 1 = 6; left 0 0 = 8; left 1 5 = 6; left 2 5 = 8; left 3 0 = 8; wear 0 0 3 = 1; years 2 = 16
            """);
    }

    private static void leaksFirst(Sentences d) {
        d.part("Terms 3");
        d.says("LEAKS: after how many YEARS it is first not DRY (0: it is not now; at most 99, NONE: not by then).", """
            leaks = 0; roof 1 1 = 1; leaks = 0; lay 0 0 1 0 1 = 0; leaks = 1; years 1 = 1; leaks = 0
            """);
        d.again(NINETY_NINE + "leaks = 99; lay 0 0 1 0 1 = 11; leaks = NONE; years 1 = 1; leaks = 99; years 98 = 98;"
                + " leaks = 1; years 1 = 1; leaks = 0");
        d.again("""
            roof 1 2 = 2; lay 0 1 2 0 9 = 0; lay 0 0 1 0 9 = 1; lay 0 1 1 0 1 = 2; leaks = 0; leakAt = 0
            years 1 = 2; dry = 1; leaks = 9; leakAt = 1
            """);
        d.says("It is only asked: nothing wears by it.", """
            roof 1 1 = 1; lay 0 0 1 0 3 = 0; leaks = 3; leakAt = 0; leaks = 3; weight 0 = 3; about 0 5 = 3; dry = 1
            top 0 0 = 0; years 1 = 1; leaks = 2; weight 0 = 2
            """);
    }

    private static void weightTerms(Sentences d) {
        d.part("Terms 3");
        d.says("WEIGHT of a COLUMN: all that is left of BUNDLES in it.", """
            weight 0 = 0; lay 0 3 3 0 9 = 0; lay 0 0 3 0 4 = 1; lay 1 0 1 0 8 = 2; weight 0 = 31; weight 1 = 8; weight 2 = 0
            years 1 = 5; weight 0 = 27; strip 0 1 = 1; weight 0 = 24; strip 0 1 = 1; weight 0 = 0; weight 1 = 7
            """);
        d.says("To STRIP a COLUMN of k: the k greatest BUNDLES that lie in it anywhere are gone.", """
            lay 0 3 1 0 5 = 0; lay 1 3 1 0 5 = 1; lay 0 0 1 0 5 = 2; lay 0 2 1 0 1 = 3; lay 0 1 1 0 5 = 4; lay 1 0 1 0 5 = 5
            years 1 = 6; strip 0 2 = 2; about 4 5 = 0; about 3 5 = 0; about 2 5 = 0; about 0 5 = 4
            about 1 5 = 4; about 5 5 = 4; strip 0 2 = 1; about 0 5 = 0; strip 1 1 = 1; about 5 5 = 0; about 1 5 = 4
            """);
        d.says("TOO HEAVY is a COLUMN by a bound; TO STRIP: how many must be, so that it is no more.", """
            lay 2 3 3 0 2 = 0; lay 1 3 3 0 9 = 1; lay 2 0 3 0 7 = 2; lay 2 2 2 0 4 = 3
            heavy 2 22 = 0; heavy 2 21 = 0; heavy 2 20 = 1; heavy 2 13 = 1; heavy 2 12 = 2; heavy 2 6 = 2; heavy 2 5 = 3
            heavy 2 0 = 3; heavy 0 0 = 0; weight 2 = 21; strip 2 2 = 2; heavy 2 6 = 0; heavy 2 5 = 1
            """);
    }

    private static void wayTerms(Sentences d) {
        d.part("Terms 3");
        d.says("A WAY of a COLUMN by a LENGTH: ROWS as bits, in which BUNDLES of that LENGTH, THICKNESS 1 are laid on the"
                + " COLUMN as if it were bare (all others as they are), from the eaves up.", """
            roof 1 4 = 4; proof 0 3 10 = 1; proof 0 3 12 = 1; proof 0 3 8 = 0; proof 0 3 4 = 0; proof 0 3 9 = 0
            proof 0 2 14 = 1; proof 0 2 12 = 0; proof 0 2 10 = 0; proof 0 2 15 = 1; proof 0 1 15 = 0
            lay 0 3 3 0 9 = 0; lay 0 1 1 0 9 = 1; proof 0 3 10 = 1; proof 0 3 8 = 0; top 0 1 = 1; count 2 = 2
            """);
        d.again("""
            lay 0 0 1 0 9 = 0 .. 39; proof 0 3 12 = 1; proof 0 3 8 = 0; fewest 0 3 = 10; count 2 = 40; weight 0 = 360
            """);
    }

    private static void fewestTerms(Sentences d) {
        d.part("Terms 3");
        d.says("FEWEST: the WAY with the fewest by which no DROP on a CELL of the COLUMN goes IN in that COLUMN;", """
            roof 1 4 = 4; fewest 0 3 = 10; fewest 0 2 = 14; roof 1 5 = 5; fewest 0 3 = 20; fewest 0 2 = 30
            pitch 1 = 2; fewest 0 3 = 28; roof 1 6 = 6; fewest 0 3 = 60; pitch 3 = 1; fewest 0 3 = 42
            """);
        d.again("""
            roof 2 1 = 2; opening 0 0 2 = 0; fewest 0 1 = 0; proof 0 1 0 = 1; dry = 0; drop 0 0 = 10; fewest 1 1 = 1
            opening 1 0 1 = 0; fewest 0 1 = NONE; fewest 1 1 = NONE
            """);
        d.says("of like ones the least number;", """
            roof 1 4 = 4; fewest 0 3 = 10; proof 0 3 12 = 1; proof 0 3 9 = 0; proof 0 3 10 = 1
            roof 1 6 = 6; opening 0 3 1 = 0; fewest 0 3 = 36; opening 0 3 0 = 1; opening 0 2 1 = 0; fewest 0 3 = 34
            proof 0 3 36 = 0; proof 0 3 33 = 0
            """);
        d.says("NONE: by no WAY.", """
            roof 1 2 = 2; fewest 0 1 = NONE; proof 0 1 0 = 0; proof 0 1 1 = 0; proof 0 1 2 = 0; proof 0 1 3 = 0
            pitch 1 = 2; roof 1 3 = 3; fewest 0 2 = NONE; roof 1 2 = 2; fewest 0 2 = 2
            """);
        d.says("(A WAY with a ROW whose CELL is an OPENING does not do.)", """
            roof 1 3 = 3; opening 0 1 1 = 0; proof 0 1 5 = 1; proof 0 1 7 = 0; proof 0 1 2 = 0; fewest 0 3 = 5
            roof 1 1 = 1; opening 0 0 2 = 0; proof 0 1 0 = 1; proof 0 1 1 = 0; fewest 0 1 = 0
            """);
    }

    private static void years(Sentences d) {
        d.part("Promise 17");
        d.says("So many YEARS go by (1 .. 99): how much straw was lost in all.", """
            years 1 = 0; years 99 = 0; lay 0 0 1 0 9 = 0 .. 11; years 1 = 1; weight 0 = 107; years 99 = 99; weight 0 = 8
            years 2 = 2; lay 1 3 3 0 9 = 12; wear 1 3 3 = 1; wear 1 2 2 = 1; years 4 = 25; years 99 = 8; years 1 = 0
            """);
        d.says("BAD.", """
            lay 0 0 1 0 9 = 0; years 0 = BAD; years 100 = BAD; years -1 = BAD; years MIN = BAD; years MAX = BAD
            weight 0 = 9
            """);
    }

    private static void leaks(Sentences d) {
        d.part("Promise 18");
        d.says("LEAKS; NONE.", """
            leaks = 0; roof 2 1 = 2; lay 0 0 1 0 9 = 0; leaks = 0; lay 1 0 1 0 4 = 1; leaks = 4; wear 0 0 3 = 1; leaks = 3
            opening 1 0 1 = LATE; years 3 = 12; leaks = 0; strip 1 1 = 1; opening 0 0 1 = 0; opening 1 0 2 = 0
            leaks = NONE
            """);
        d.again(NINETY_NINE + "leaks = 99; lay 0 0 1 0 2 = 11; leaks = NONE; wear 0 0 2 = 1; leaks = 56");
    }

    private static void leakAt(Sentences d) {
        d.part("Promise 19");
        d.says("The first CELL (COLUMN by COLUMN, ROWS upward) at which it is wet then;", """
            leakAt = 0; roof 2 2 = 4; lay 0 1 2 0 2 = 0; leakAt = 10; lay 1 1 2 0 1 = 1; leakAt = 10; wear 1 0 1 = 1
            lay 1 0 1 0 1 = 2; leakAt = 11; lay 1 1 2 0 9 = 3; leakAt = 0; leaks = 2; lay 0 0 1 0 1 = 4; leakAt = 1
            leaks = 2; years 2 = 8; leakAt = 1; leaks = 0; weight 0 = 1; weight 1 = 17
            """);
        d.again("""
            roof 6 6 = 36; leakAt = 0; opening 0 0 2 = 0; leakAt = 1; lay 0 1 1 0 1 = 0; leakAt = 2
            """);
        d.says("NONE: it does not leak.", "roof 1 1 = 1; opening 0 0 1 = 0; leakAt = NONE");
        d.again(NINETY_NINE + "leakAt = 0; lay 0 0 1 0 1 = 11; leakAt = NONE; leaks = NONE; years 1 = 1; leakAt = 0");
    }

    private static void weight(Sentences d) {
        d.part("Promise 20");
        d.says("WEIGHT.", """
            weight 0 = 0; weight 3 = 0; lay 3 3 3 0 9 = 0; weight 3 = 27; weight 2 = 0; years 9 = 27; weight 3 = 0
            """);
        d.again(HEAVIEST + "years 99 = 297; weight 1 = 783; strip 1 9 = 9; weight 1 = 540");
        d.says("UNKNOWN.", """
            weight -1 = UNKNOWN; weight 4 = UNKNOWN; weight MIN = UNKNOWN; weight MAX = UNKNOWN; weight 3 = 0
            """);
    }

    private static void heavy(Sentences d) {
        d.part("Promise 21");
        d.says("TO STRIP a COLUMN by a bound.", """
            heavy 0 0 = 0; lay 0 0 1 0 1 = 0; heavy 0 0 = 1; heavy 0 1 = 0; heavy 0 999 = 0; lay 0 1 1 0 1 = 1; years 1 = 2
            heavy 0 0 = 0; lay 0 2 2 0 5 = 2; lay 0 3 1 0 1 = 3; lay 0 0 1 0 5 = 4; years 1 = 4; heavy 0 11 = 1
            heavy 0 12 = 0; heavy 0 7 = 2; heavy 0 8 = 1
            """);
        d.again(HEAVIEST + "heavy 1 999 = 3; heavy 1 998 = 4; heavy 1 1 = 40; heavy 1 0 = 40; heavy 0 0 = 0; count 3 = 40");
        d.says("UNKNOWN;", """
            heavy -1 0 = UNKNOWN; heavy 4 0 = UNKNOWN; heavy MIN 0 = UNKNOWN; heavy MAX 0 = UNKNOWN; heavy 4 -1 = UNKNOWN
            heavy -1 1000 = UNKNOWN
            """);
        d.says("BAD: bound (0 .. 999).", """
            heavy 3 0 = 0; heavy 3 999 = 0; heavy 3 -1 = BAD; heavy 3 1000 = BAD; heavy 3 MIN = BAD; heavy 3 MAX = BAD
            """);
    }

    private static void fewest(Sentences d) {
        d.part("Promise 22");
        d.says("FEWEST, as bits; NONE.", """
            fewest 0 1 = NONE; fewest 3 2 = 14; fewest 0 3 = 10; roof 6 6 = 36; fewest 5 3 = 42; fewest 0 2 = 62
            fewest 5 1 = NONE; roof 1 1 = 1; fewest 0 1 = 1; fewest 0 2 = 1; fewest 0 3 = 1; opening 0 0 1 = 0
            fewest 0 1 = 0; fewest 0 3 = 0
            """);
        d.says("UNKNOWN;", """
            fewest -1 1 = UNKNOWN; fewest 4 1 = UNKNOWN; fewest MIN 1 = UNKNOWN; fewest MAX 1 = UNKNOWN
            fewest 4 0 = UNKNOWN
            fewest -1 4 = UNKNOWN
            """);
        d.says("BAD: length.", """
            fewest 3 0 = BAD; fewest 3 4 = BAD; fewest 3 -1 = BAD; fewest 3 MIN = BAD; fewest 3 MAX = BAD
            """);
    }

    private static void proof(Sentences d) {
        d.part("Promise 23");
        d.says("Whether by a WAY no DROP on a CELL of the COLUMN goes IN in it: 1, 0.", """
            roof 1 1 = 1; proof 0 1 0 = 0; proof 0 1 1 = 1; proof 0 3 1 = 1; opening 0 0 1 = 0; proof 0 1 0 = 1
            proof 0 1 1 = 0; roof 6 6 = 36; proof 5 3 63 = 1; proof 5 3 0 = 0; proof 5 2 62 = 1; proof 5 2 61 = 0
            proof 5 2 31 = 0; proof 0 1 63 = 0
            """);
        d.again("""
            roof 2 3 = 6; opening 0 1 2 = 0; proof 0 1 5 = 1; drop 0 1 = 11; proof 1 3 4 = 1; opening 1 1 1 = 0
            proof 0 1 5 = 0
            """);
        d.says("UNKNOWN;", """
            proof -1 1 0 = UNKNOWN; proof 4 1 0 = UNKNOWN; proof MAX 1 0 = UNKNOWN; proof 4 0 0 = UNKNOWN
            proof -1 1 -1 = UNKNOWN; proof 4 1 16 = UNKNOWN
            """);
        d.says("BAD: length, way (bits of ROWS there are).", """
            proof 3 0 0 = BAD; proof 3 4 0 = BAD; proof 3 MIN 0 = BAD; proof 3 MAX 0 = BAD; proof 3 1 -1 = BAD
            proof 3 1 16 = BAD; proof 3 1 15 = 0; proof 3 1 0 = 0; proof 3 1 MIN = BAD; proof 3 1 MAX = BAD
            roof 6 1 = 6; proof 5 1 1 = 1; proof 5 1 2 = BAD; roof 1 6 = 6; proof 0 3 63 = 1; proof 0 3 64 = BAD
            """);
    }
}
