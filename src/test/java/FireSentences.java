/** Terms 5 and promises 29 to 32: sparks, the worst one, the cell to clear, offers. */
final class FireSentences {
    private FireSentences() {
    }

    static void tell(Sentences document) {
        sparks(document);
        winds(document);
        worstAndClear(document);
        offerIsLaid(document);
        offerIsPaid(document);
        burnt(document);
        worst(document);
        clear(document);
        offer(document);
    }

    private static void sparks(Sentences d) {
        d.part("Terms 5");
        d.says("A SPARK on a CELL that has straw (something lies on it) burns it;", """
            burnt 0 0 0 = 0; lay 0 0 1 0 1 = 0; burnt 0 0 0 = 1; burnt 0 1 0 = 0; years 1 = 1; burnt 0 0 0 = 0
            opening 0 0 1 = 0; burnt 0 0 1 = 0
            """);
        d.says("from a CELL that burns to those beside it (sides) that have straw,", """
            lay 0 0 1 0 1 = 0; lay 0 1 1 0 1 = 1; lay 1 1 1 0 1 = 2; lay 2 1 1 0 1 = 3; lay 2 0 1 0 1 = 4; lay 3 2 1 0 1 = 5
            burnt 0 0 0 = 5; burnt 2 0 0 = 5; burnt 1 1 0 = 5; burnt 3 2 0 = 1; burnt 1 0 0 = 0
            """);
        d.again("""
            roof 6 6 = 36; lay 0 5 1 0 1 = 0; lay 1 0 1 0 1 = 1; lay 1 1 1 0 1 = 2; burnt 0 5 0 = 1; burnt 0 5 2 = 1
            burnt 1 0 4 = 2; burnt 1 1 4 = 2; lay 4 5 1 0 1 = 3; lay 5 0 1 0 1 = 4; burnt 5 0 4 = 1; burnt 4 5 2 = 1
            """);
        d.says("BURNT: all CELLS that burn by it.", """
            roof 6 6 = 36; lay 0 5 3 0 1 = 0; lay 0 2 3 0 1 = 1; lay 1 5 1 0 1 = 2; lay 2 5 3 0 1 = 3; lay 2 2 3 0 1 = 4
            lay 3 0 1 0 1 = 5; lay 4 5 3 0 1 = 6; lay 4 2 3 0 1 = 7; lay 5 5 1 0 1 = 8
            burnt 0 0 0 = 21; burnt 5 5 0 = 21; burnt 0 0 3 = 21; strip 3 1 = 1; burnt 0 0 0 = 13; burnt 5 5 0 = 7
            burnt 0 0 1 = 20; weight 0 = 6; dry = 0
            """);
    }

    private static void winds(Sentences d) {
        d.part("Terms 5");
        d.says("and by a WIND (0 none, 1 to greater COLUMNS, 2 to greater ROWS, 3 to lesser COLUMNS, 4 to lesser ROWS)", """
            lay 0 0 1 0 1 = 0; lay 0 2 1 0 1 = 1; lay 2 0 1 0 1 = 2; lay 2 2 1 0 1 = 3
            burnt 0 0 0 = 1; burnt 0 0 1 = 2; burnt 0 0 2 = 2; burnt 0 0 3 = 1; burnt 0 0 4 = 1
            burnt 0 2 0 = 1; burnt 0 2 1 = 2; burnt 0 2 2 = 1; burnt 0 2 3 = 1; burnt 0 2 4 = 2
            burnt 2 0 0 = 1; burnt 2 0 1 = 1; burnt 2 0 2 = 2; burnt 2 0 3 = 2; burnt 2 0 4 = 1
            burnt 2 2 0 = 1; burnt 2 2 1 = 1; burnt 2 2 2 = 1; burnt 2 2 3 = 2; burnt 2 2 4 = 2
            """);
        d.says("to the second one that way, too (over one without straw).", """
            roof 6 1 = 6; lay 0 0 1 0 1 = 0; lay 3 0 1 0 1 = 1; burnt 0 0 1 = 1; opening 1 0 1 = 0; lay 2 0 1 0 1 = 2
            burnt 0 0 1 = 3; burnt 0 0 0 = 1; burnt 3 0 3 = 3; burnt 3 0 1 = 2; lay 5 0 1 0 1 = 3; burnt 0 0 1 = 4
            lay 4 0 1 0 1 = 4; burnt 0 0 1 = 5; burnt 0 0 2 = 1; burnt 0 0 4 = 1
            """);
        d.again("""
            roof 1 6 = 6; lay 0 0 1 0 1 = 0; lay 0 2 1 0 1 = 1; lay 0 5 1 0 1 = 2; burnt 0 0 2 = 2; burnt 0 5 4 = 1
            burnt 0 2 4 = 2; burnt 0 2 2 = 1; burnt 0 0 1 = 1; burnt 0 0 3 = 1; lay 0 4 1 0 1 = 3; burnt 0 0 2 = 4
            burnt 0 5 4 = 4; burnt 0 4 2 = 2; burnt 0 4 4 = 4
            """);
    }

    private static void worstAndClear(Sentences d) {
        d.part("Terms 5");
        d.says("THE WORST SPARK: the one by which most burn; of like ones the least COLUMN, then ROW.", """
            lay 3 0 1 0 1 = 0; worst 0 = 30; lay 0 3 1 0 1 = 1; worst 0 = 3; lay 0 1 1 0 1 = 2; worst 0 = 1
            lay 3 1 1 0 1 = 3; worst 0 = 30; worst 2 = 1; worst 4 = 3; lay 2 1 1 0 1 = 4; worst 0 = 21; worst 1 = 1
            """);
        d.says("TO CLEAR: the CELL without whose straw THE WORST SPARK would burn least; of like ones the first.", """
            roof 5 1 = 5; lay 2 0 1 0 1 = 0; clear 0 = 20; lay 0 0 1 0 1 = 1; clear 0 = 0; lay 1 0 1 0 1 = 2; clear 0 = 10
            lay 3 0 1 0 1 = 3; lay 4 0 1 0 1 = 4; clear 0 = 20; clear 1 = 0; clear 3 = 0; clear 2 = 20; count 3 = 5
            """);
        d.again("""
            roof 6 2 = 12; lay 1 1 2 0 1 = 0; lay 4 1 2 0 1 = 1; clear 0 = 10; lay 4 1 1 0 1 = 2; clear 0 = 10
            lay 5 1 1 0 1 = 3; clear 0 = 40; worst 0 = 40; lay 0 0 1 0 1 = 4; clear 0 = 0; clear 1 = 0
            """);
    }

    private static void offerIsLaid(Sentences d) {
        d.part("Terms 5");
        d.says("AN OFFER: a price for each BUNDLE, for each unit of THICKNESS, a LENGTH and a THICKNESS:", """
            roof 1 1 = 1; offer 7 0 1 9 1 = 7; offer 0 7 1 9 1 = 63; offer 7 2 1 3 1 = 13; roof 1 2 = 2
            offer 7 2 1 3 1 = NONE; offer 7 2 2 3 1 = 13; roof 1 3 = 3; offer 7 2 2 3 1 = 26; offer 7 2 3 3 1 = 13
            """);
        d.says("THE COST of it for Y YEARS (1 .. 99):", """
            roof 1 1 = 1; offer 5 0 1 1 0 = BAD; offer 5 0 1 1 1 = 5; offer 5 0 1 1 2 = 10; offer 5 0 1 1 98 = 490
            offer 5 0 1 1 99 = 495; offer 5 0 1 1 100 = BAD
            """);
        d.says("bare, THE ROOF is laid COLUMN by COLUMN from 0 on by FEWEST of each (others as they are by then),"
                + " with that THICKNESS;", """
            roof 6 6 = 36; lay 3 5 3 0 9 = 0 .. 39; offer 1 0 3 9 1 = 18; offer 1 0 2 9 1 = 30; pitch 1 = 2
            offer 1 0 3 9 1 = 24; opening 0 1 2 = 0; opening 5 0 2 = 0; offer 1 0 3 9 1 = 22; opening 4 4 1 = 0
            offer 1 0 3 9 1 = 21; count 2 = 40; weight 3 = 1080; weight 0 = 0
            """);
        d.says("(THE ROOF as told is not changed.)", """
            roof 2 2 = 4; lay 0 1 2 0 3 = 0; lay 1 0 1 0 4 = 1; keep 0 = 2; tell Y1; offer 1 1 2 1 9 = 36; count 2 = 2
            weight 0 = 6; weight 1 = 4; top 1 1 = NONE; dry = 0; leaks = 0; count 5 = 2; again 0 = 2; left 0 1 = 3
            """);
    }

    private static void offerIsPaid(Sentences d) {
        d.part("Terms 5");
        d.says("it LEAKS after some YEARS, then it is stripped and laid anew (in that YEAR), as often as that is less"
                + " than Y;", """
            roof 2 1 = 2; offer 1 0 1 4 1 = 2; offer 1 0 1 4 4 = 2; offer 1 0 1 4 5 = 4; offer 1 0 1 4 8 = 4
            offer 1 0 1 4 9 = 6; offer 1 0 1 4 99 = 50; wear 1 0 3 = 1; offer 1 0 1 4 2 = 2; offer 1 0 1 4 3 = 4
            offer 1 0 1 9 3 = 2; offer 1 0 1 9 4 = 4; offer 1 0 1 9 99 = 66; offer 1 0 1 1 99 = 198
            """);
        d.says("all prices together (each BUNDLE: its price, and that of a unit times THICKNESS);", """
            roof 1 1 = 1; offer 0 0 1 9 99 = 0; offer 99 99 1 9 99 = 10890; offer 99 99 1 1 99 = 19602
            offer 1 99 1 9 9 = 892
            roof 6 6 = 36; offer 99 99 3 9 1 = 17820; offer 99 99 3 9 99 = 196020
            wear 3 5 3 = 1; offer 99 99 2 9 99 = 980100; offer 99 99 2 1 99 = 588060
            """);
        d.says("NONE: by no WAY in some COLUMN, or it LEAKS at once.", """
            offer 0 0 1 1 1 = NONE; roof 2 2 = 4; opening 0 0 1 = 0; opening 0 1 1 = 0; offer 1 0 1 1 1 = NONE
            opening 1 0 2 = 0; offer 1 0 1 1 1 = 1; roof 2 1 = 2; opening 0 0 2 = 0; offer 1 0 1 1 1 = 1
            opening 1 0 1 = 0; offer 1 0 1 1 1 = NONE; opening 1 0 2 = 1; offer 9 9 1 9 99 = 0
            """);
    }

    private static void burnt(Sentences d) {
        d.part("Promise 29");
        d.says("How many CELLS are BURNT by a SPARK (0: nothing lies there).", """
            burnt 0 0 0 = 0; lay 0 0 1 0 1 = 0; burnt 0 0 0 = 1; burnt 0 1 0 = 0; burnt 0 0 4 = 1; count 3 = 1
            roof 6 6 = 36; burnt 5 5 0 = 0
            """ + everyCell() + "burnt 0 0 0 = 36; burnt 5 5 0 = 36; burnt 5 0 1 = 36; burnt 0 5 4 = 36; burnt 2 2 2 = 36");
        d.says("UNKNOWN;", """
            burnt -1 0 0 = UNKNOWN; burnt 4 0 0 = UNKNOWN; burnt 0 -1 0 = UNKNOWN; burnt 0 4 0 = UNKNOWN
            burnt MIN 0 0 = UNKNOWN
            burnt 0 MAX 0 = UNKNOWN; burnt 4 0 5 = UNKNOWN; burnt 0 4 -1 = UNKNOWN
            """);
        d.says("BAD: wind.", """
            burnt 0 0 5 = BAD; burnt 0 0 -1 = BAD; burnt 0 0 MAX = BAD; burnt 0 0 MIN = BAD; lay 0 0 1 0 1 = 0
            burnt 0 0 5 = BAD; burnt 0 0 -1 = BAD; burnt 0 0 4 = 1
            """);
    }

    private static String everyCell() {
        StringBuilder calls = new StringBuilder();
        for (int cell = 0; cell < 36; cell++) {
            calls.append("lay " + cell / 6 + " " + cell % 6 + " 1 0 1 = " + cell + "; ");
        }
        return calls.toString();
    }

    private static void worst(Sentences d) {
        d.part("Promise 30");
        d.says("THE WORST SPARK as a CELL; NONE: no straw.", """
            worst 0 = NONE; worst 4 = NONE; lay 3 2 1 0 1 = 0; worst 0 = 32; worst 4 = 32; lay 1 2 1 0 1 = 1; worst 0 = 12
            worst 1 = 12; worst 3 = 32; years 1 = 2; worst 0 = NONE; roof 6 6 = 36; lay 5 5 1 0 1 = 0; worst 2 = 55
            lay 5 3 1 0 1 = 1; worst 4 = 55; worst 2 = 53
            """);
        d.again("roof 6 6 = 36; " + everyCell() + "worst 0 = 0; worst 1 = 0; worst 4 = 0; strip 0 9 = 6; worst 0 = 10");
        d.says("BAD.", """
            worst -1 = BAD; worst 5 = BAD; worst MIN = BAD; worst MAX = BAD; lay 0 0 1 0 1 = 0; worst 5 = BAD
            worst 0 = 0
            """);
    }

    private static void clear(Sentences d) {
        d.part("Promise 31");
        d.says("TO CLEAR, as a CELL; NONE: no straw.", """
            clear 0 = NONE; clear 4 = NONE; lay 3 2 1 0 1 = 0; clear 0 = 32; clear 4 = 32; lay 1 2 1 0 1 = 1; clear 0 = 12
            lay 2 2 1 0 1 = 2; clear 0 = 22; clear 1 = 12; years 1 = 3; clear 0 = NONE; roof 6 6 = 36; lay 5 5 1 0 1 = 0
            clear 3 = 55; weight 5 = 1
            """);
        d.again("roof 6 6 = 36; " + everyCell() + "clear 0 = 0; clear 1 = 0; count 3 = 36");
        d.says("BAD.", """
            clear -1 = BAD; clear 5 = BAD; clear MIN = BAD; clear MAX = BAD; lay 0 0 1 0 1 = 0; clear 5 = BAD
            clear 4 = 0
            """);
    }

    private static void offer(Sentences d) {
        d.part("Promise 32");
        d.says("THE COST of an OFFER; NONE.", """
            roof 1 1 = 1; offer 3 1 1 5 10 = 16; offer 3 1 1 5 11 = 24; offer 3 1 3 5 5 = 8; roof 1 2 = 2
            offer 3 1 1 5 10 = NONE
            roof 1 1 = 1; opening 0 0 1 = 0; offer 3 1 1 5 10 = 0
            """);
        d.says("BAD: prices (0 .. 99), length, thickness, years.", """
            offer -1 0 1 1 1 = BAD; offer 100 0 1 1 1 = BAD; offer 0 -1 1 1 1 = BAD; offer 0 100 1 1 1 = BAD
            offer 0 0 0 1 1 = BAD; offer 0 0 4 1 1 = BAD; offer 0 0 1 0 1 = BAD; offer 0 0 1 10 1 = BAD
            offer 0 0 1 1 0 = BAD
            offer 0 0 1 1 100 = BAD; offer MIN 0 1 1 1 = BAD; offer 0 MAX 1 1 1 = BAD; offer 0 0 MIN 1 1 = BAD
            offer 0 0 1 MAX 1 = BAD; offer 0 0 1 1 MIN = BAD; offer 0 0 1 1 MAX = BAD
            offer 0 0 1 1 1 = NONE; offer 99 99 3 9 99 = 87120; offer 0 99 3 1 1 = 792; offer 99 0 3 1 1 = 792
            """);
    }
}
