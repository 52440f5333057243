/** Terms 2 and promises 12 to 16: where drops go. */
final class WaterSentences {
    private WaterSentences() {
    }

    static void tell(Sentences document) {
        falls(document);
        goesOn(document);
        ontoAnother(document);
        laps(document);
        aside(document);
        dryAndWet(document);
        drop(document);
        way(document);
        wet(document);
        dry(document);
        off(document);
    }

    /** A roof of 6, 6 on which water goes to and fro over openings, from the ridge's left to the eaves' left. */
    private static String toAndFro() {
        StringBuilder calls = new StringBuilder("roof 6 6 = 36; ");
        int laid = 0;
        for (int row = 5; row >= 0; row--) {
            boolean right = row % 2 == 1;
            for (int column = 0; column < 6; column++) {
                if (column == (right ? 5 : 0)) {
                    calls.append("lay " + column + " " + row + " 1 0 1 = " + laid++ + "; ");
                } else {
                    calls.append("opening " + column + " " + row + (right ? " 2" : " 1") + " = 0; ");
                }
            }
        }
        return calls.toString();
    }

    /** The places of its longest way: five openings and one bundle in each row. */
    private static String longestWay() {
        StringBuilder calls = new StringBuilder();
        int i = 0;
        for (int row = 5; row >= 0; row--) {
            for (int k = 0; k < 6; k++) {
                int column = row % 2 == 1 ? k : 5 - k;
                int on = k == 5 ? 5 - row : 99;
                calls.append("way 0 5 " + i++ + " = " + (100 * on + 10 * column + row) + "; ");
            }
        }
        return calls + "way 0 5 36 = NONE; way 0 5 64 = NONE; ";
    }

    private static void falls(Sentences d) {
        d.part("Terms 2");
        d.says("A DROP falls on a CELL: onto its TOP;", """
            lay 0 1 2 0 1 = 0; lay 0 0 1 0 1 = 1; way 0 0 0 = 100; way 0 1 0 = 1; strip 0 1 = 1; way 0 0 0 = 0
            """);
        d.says("IN at that CELL, if nothing lies there;", """
            drop 0 0 = 0; drop 3 3 = 33; way 3 3 0 = NONE; wet 3 3 = 1
            lay 1 0 1 0 1 = 0; drop 1 0 = OFF; years 1 = 1; drop 1 0 = 10; way 1 0 0 = NONE
            """);
        d.says("ASIDE, if it is an OPENING.", """
            opening 1 3 2 = 0; drop 1 3 = 23; way 1 3 0 = 9913; way 1 3 1 = NONE; opening 1 3 1 = 2; drop 1 3 = 3
            opening 1 3 0 = 1; drop 1 3 = 13; way 1 3 0 = NONE
            """);
    }

    private static void goesOn(Sentences d) {
        d.part("Terms 2");
        d.says("From a CELL on a BUNDLE it goes on: if the BUNDLE lies on the CELL below, there on the same one"
                + " (whatever lies over it).", """
            lay 0 2 3 0 1 = 0; lay 0 1 1 0 9 = 1; lay 0 0 1 0 9 = 2
            way 0 2 0 = 2; way 0 2 1 = 1; way 0 2 2 = 0; way 0 2 3 = NONE; drop 0 2 = OFF
            """);
        d.again("""
            lay 0 2 3 0 2 = 0; wear 0 1 2 = 1; years 1 = 4; left 0 0 = 1; left 0 1 = 0; drop 0 2 = 1; way 0 2 1 = NONE
            """);
        d.says("If the CELL is in ROW 0, OFF.", """
            lay 0 0 3 0 1 = 0; drop 0 0 = OFF; way 0 0 0 = 0; way 0 0 1 = NONE; lay 1 1 1 0 1 = 1; drop 1 1 = 10
            roof 1 1 = 1; lay 0 0 1 0 1 = 0; drop 0 0 = OFF; roof 6 6 = 36; lay 5 0 1 0 1 = 0; drop 5 0 = OFF
            """);
        d.says("If the CELL below is an OPENING, ASIDE there.", """
            opening 1 1 2 = 0; lay 1 2 3 0 1 = 0; drop 1 2 = 21; way 1 2 0 = 12; way 1 2 1 = 9911; way 1 2 2 = NONE
            lay 2 1 2 0 1 = 1; drop 1 2 = OFF; way 1 2 2 = 121; way 1 2 3 = 120; way 1 2 4 = NONE
            opening 1 1 0 = 2; drop 1 2 = 11
            """);
    }

    private static void ontoAnother(Sentences d) {
        d.part("Terms 2");
        d.says("Else onto the greatest BUNDLE that lies on the CELL below and was laid ahead of its own;", """
            roof 1 2 = 2; lay 0 1 2 0 1 = 0; lay 0 1 2 0 1 = 1; lay 0 1 1 0 1 = 2; lay 0 0 1 0 1 = 3
            way 0 1 0 = 201; way 0 1 1 = 100; way 0 1 2 = NONE; drop 0 1 = OFF; drop 0 0 = OFF; way 0 0 0 = 300
            """);
        d.says("but IN at the CELL below, if there is none,", """
            roof 1 2 = 2; lay 0 1 1 0 1 = 0; drop 0 1 = 0; lay 0 1 2 0 1 = 1; strip 0 1 = 1; drop 0 1 = 0
            lay 0 0 1 0 1 = 2; drop 0 1 = 0; drop 0 0 = OFF; wet 0 0 = 1; way 0 1 0 = 1; way 0 1 1 = NONE
            """);
    }

    private static void laps(Sentences d) {
        d.part("Terms 2");
        d.says("or that one does not lie on all of the CELLS of LAP rows above that CELL", """
            roof 1 4 = 4; lay 0 0 1 0 1 = 0; lay 0 1 1 0 1 = 1; drop 0 1 = 0
            roof 1 4 = 4; lay 0 1 2 0 1 = 0; lay 0 1 1 0 1 = 1; drop 0 1 = OFF
            roof 1 2 = 2; lay 0 1 2 0 1 = 0; lay 0 0 1 0 1 = 1; lay 0 1 1 0 1 = 2; drop 0 1 = 0; way 0 1 1 = NONE
            """);
        d.again("""
            pitch 1 = 2; roof 1 4 = 4; lay 0 2 3 0 1 = 0; lay 0 3 3 0 1 = 1; drop 0 3 = OFF; way 0 3 3 = 0
            roof 1 4 = 4; lay 0 1 2 0 1 = 0; lay 0 3 3 0 1 = 1; drop 0 3 = 0; pitch 2 = 1; drop 0 3 = OFF
            """);
        d.again("""
            roof 1 4 = 4; lay 0 2 3 0 2 = 0; wear 0 1 2 = 1; years 1 = 4; lay 0 3 3 0 1 = 1; drop 0 3 = 0; pitch 1 = 2
            drop 0 3 = 0; left 0 0 = 1; left 0 1 = 0; left 0 2 = 1
            """);
        d.again("""
            roof 1 4 = 4; lay 0 2 3 0 2 = 0; wear 0 2 2 = 1; years 1 = 4; lay 0 3 3 0 1 = 1; drop 0 3 = OFF; pitch 1 = 2
            drop 0 3 = 0; left 0 0 = 1; left 0 1 = 1; left 0 2 = 0
            """);
        d.says("(as far as they are CELLS of THE ROOF and no OPENINGS).", """
            pitch 1 = 2; roof 1 2 = 2; lay 0 1 2 0 1 = 0; lay 0 1 1 0 1 = 1; drop 0 1 = OFF
            roof 2 2 = 4; lay 0 1 2 0 1 = 0; lay 0 1 1 0 1 = 1; drop 0 1 = OFF
            roof 1 3 = 3; lay 0 1 2 0 1 = 0; lay 0 1 1 0 1 = 1; drop 0 1 = 0
            roof 1 4 = 4; opening 0 2 1 = 0; lay 0 1 2 0 1 = 0; lay 0 1 1 0 1 = 1; drop 0 1 = OFF; opening 0 2 0 = 1
            drop 0 1 = 0; opening 0 2 2 = 0; drop 0 1 = OFF
            roof 1 6 = 6; lay 0 5 3 0 1 = 0; lay 0 5 2 0 1 = 1; drop 0 5 = 2; lay 0 4 1 0 1 = 2; way 0 4 1 = 3
            """);
    }

    private static void aside(Sentences d) {
        d.part("Terms 2");
        d.says("ASIDE at an OPENING: it falls on the CELL beside it (left: COLUMN less 1; right: 1 more) in the"
                + " same ROW;", """
            roof 3 3 = 9; opening 1 1 1 = 0; lay 0 1 2 0 1 = 0; lay 0 2 3 0 1 = 1
            way 1 1 0 = 9911; way 1 1 1 = 101; way 1 1 2 = 100; way 1 1 3 = NONE; drop 1 1 = OFF
            opening 1 1 2 = 1; drop 1 1 = 21; opening 2 1 2 = 0; drop 1 1 = OFF; way 1 1 1 = 9921; way 1 1 2 = NONE
            """);
        d.says("OFF, if there is none;", """
            roof 1 1 = 1; opening 0 0 1 = 0; drop 0 0 = OFF; opening 0 0 2 = 1; drop 0 0 = OFF; way 0 0 1 = NONE
            roof 3 2 = 6; opening 0 1 1 = 0; opening 2 1 2 = 0; drop 0 1 = OFF; drop 2 1 = OFF
            opening 0 1 2 = 1; opening 2 1 1 = 2; drop 0 1 = 11; drop 2 1 = 11
            roof 6 6 = 36; opening 5 5 2 = 0; drop 5 5 = OFF; opening 0 5 1 = 0; drop 0 5 = OFF
            """);
        d.says("a DROP that was ASIDE at the same OPENING before is IN there (at each other one it turns).", """
            roof 2 1 = 2; opening 0 0 2 = 0; opening 1 0 1 = 0; drop 0 0 = 0; drop 1 0 = 10
            way 0 0 0 = 9900; way 0 0 1 = 9910; way 0 0 2 = NONE
            """);
        d.again("""
            roof 6 1 = 6; opening 0 0 2 = 0; opening 1 0 2 = 0; opening 2 0 2 = 0; opening 3 0 2 = 0; opening 4 0 2 = 0
            opening 5 0 1 = 0; drop 0 0 = 40; drop 4 0 = 40; drop 5 0 = 50; wet 4 0 = 5; wet 5 0 = 1; way 0 0 5 = 9950
            way 0 0 6 = NONE; opening 5 0 2 = 1; drop 0 0 = OFF; way 0 0 5 = 9950; way 0 0 6 = NONE
            """);
        d.again(toAndFro() + "drop 0 5 = OFF; " + longestWay());
    }

    private static void dryAndWet(Sentences d) {
        d.part("Terms 2");
        d.says("A ROOF is DRY, if no DROP on a CELL of it goes IN (one falls on each).", """
            roof 2 1 = 2; dry = 0; lay 0 0 1 0 1 = 0; dry = 0; lay 1 0 1 0 1 = 1; dry = 1; strip 0 1 = 1; dry = 0
            roof 1 2 = 2; lay 0 0 1 0 1 = 0; dry = 0; lay 0 1 2 0 1 = 1; dry = 1; roof 1 1 = 1; opening 0 0 1 = 0; dry = 1
            """);
        d.says("WET is a CELL by how many of these go IN there.", """
            roof 1 3 = 3; lay 0 2 1 0 1 = 0; wet 0 0 = 1; wet 0 1 = 2; wet 0 2 = 0; lay 0 1 2 0 1 = 1
            wet 0 0 = 0; wet 0 1 = 1; wet 0 2 = 0
            """);
    }

    private static void drop(Sentences d) {
        d.part("Promise 12");
        d.says("Where a DROP on a CELL ends: the CELL at which it is IN; 100: OFF.", """
            drop 0 0 = 0; drop 3 3 = 33; drop 1 2 = 12; lay 0 0 1 0 1 = 0; drop 0 0 = 100; lay 0 1 1 0 1 = 1; drop 0 1 = 0
            roof 6 6 = 36; drop 5 5 = 55; drop 5 0 = 50; drop 0 5 = 5; lay 5 5 1 0 1 = 0; drop 5 5 = 54
            opening 5 3 2 = 0; drop 5 3 = 100
            """);
        d.says("UNKNOWN.", """
            drop -1 0 = UNKNOWN; drop 4 0 = UNKNOWN; drop 0 -1 = UNKNOWN; drop 0 4 = UNKNOWN; drop MIN 0 = UNKNOWN
            drop 0 MAX = UNKNOWN; roof 6 6 = 36; drop 6 5 = UNKNOWN; drop 5 6 = UNKNOWN
            """);
    }

    private static void way(Sentences d) {
        d.part("Promise 13");
        d.says("The i-th place of its way (0: where it falls): 100 times the BUNDLE and the CELL;", """
            lay 0 1 2 0 1 = 0; lay 0 3 3 0 1 = 1; way 0 3 0 = 103; way 0 3 1 = 102; way 0 3 2 = 101; way 0 3 3 = 0
            way 0 0 0 = 0; way 0 0 1 = NONE; lay 3 3 1 0 1 = 2 .. 39; way 3 3 0 = 3933; way 3 3 1 = NONE
            """);
        d.says("9900 and a CELL that is an OPENING;", """
            opening 0 0 2 = 0; opening 1 0 2 = 0; lay 0 1 1 0 1 = 0; way 0 0 0 = 9900; way 0 0 1 = 9910; way 0 1 0 = 1
            way 0 1 1 = 9900; way 0 1 2 = 9910; way 0 1 3 = NONE; roof 6 6 = 36; opening 5 5 2 = 0; way 5 5 0 = 9955
            """);
        d.says("NONE: it is at its end (also for i below 0).", """
            way 0 0 0 = NONE; way 0 0 -1 = NONE; lay 0 0 1 0 1 = 0; way 0 0 0 = 0; way 0 0 1 = NONE; way 0 0 -1 = NONE
            way 0 0 MIN = NONE; way 0 0 MAX = NONE; way 0 0 63 = NONE; way 0 0 64 = NONE
            """);
        d.again(toAndFro() + "way 0 5 -1 = NONE; " + longestWay());
        d.says("UNKNOWN.", """
            way -1 0 0 = UNKNOWN; way 4 0 0 = UNKNOWN; way 0 -1 0 = UNKNOWN; way 0 4 0 = UNKNOWN; way MAX 0 0 = UNKNOWN
            way 0 MIN 0 = UNKNOWN; way 4 0 -1 = UNKNOWN; way 0 4 MAX = UNKNOWN
            """);
    }

    private static void wet(Sentences d) {
        d.part("Promise 14");
        d.says("How many DROPS go IN at a CELL (one falls on each).", """
            wet 0 0 = 1; wet 3 3 = 1; lay 0 3 1 0 1 = 0; wet 0 3 = 0; wet 0 2 = 2; opening 0 2 2 = 0; wet 0 2 = 0
            wet 1 2 = 3
            """);
        d.again(toAndFro() + "wet 0 0 = 0; wet 5 5 = 0; strip 0 1 = 1; wet 0 0 = 36; wet 0 2 = 0; wet 5 5 = 0");
        d.says("UNKNOWN.", """
            wet -1 0 = UNKNOWN; wet 4 0 = UNKNOWN; wet 0 -1 = UNKNOWN; wet 0 4 = UNKNOWN; wet MIN 0 = UNKNOWN
            wet 0 MAX = UNKNOWN
            """);
    }

    private static void dry(Sentences d) {
        d.part("Promise 15");
        d.says("Whether THE ROOF is DRY: 1, 0.", """
            dry = 0; roof 2 2 = 4; lay 0 1 2 0 1 = 0; dry = 0; lay 1 1 2 0 1 = 1; dry = 1; years 1 = 4; dry = 0
            roof 2 2 = 4; lay 0 1 2 0 1 = 0; lay 1 0 1 0 1 = 1; dry = 0; opening 1 1 1 = 0; dry = 1
            """);
        d.again(toAndFro() + "dry = 1; strip 0 1 = 1; dry = 0");
    }

    private static void off(Sentences d) {
        d.part("Promise 16");
        d.says("How many DROPS run OFF the eaves of a COLUMN.", """
            off 0 = 0; off 3 = 0; lay 0 0 1 0 1 = 0; off 0 = 1; lay 3 1 2 0 1 = 1; off 3 = 2; opening 2 0 2 = 0; off 3 = 3
            off 2 = 0; opening 2 0 1 = 2; off 3 = 2; off 2 = 0
            roof 1 1 = 1; opening 0 0 1 = 0; off 0 = 0; drop 0 0 = OFF
            """);
        d.again(toAndFro() + "off 0 = 36; off 5 = 0; strip 0 1 = 1; off 0 = 0");
        d.says("UNKNOWN.", "off -1 = UNKNOWN; off 4 = UNKNOWN; off MIN = UNKNOWN; off MAX = UNKNOWN; off 3 = 0");
    }
}
