/** Terms 1 and promises 1 to 5: the roof, its cells, pitch, wear and openings. */
final class RoofSentences {
    private RoofSentences() {
    }

    static void tell(Sentences document) {
        sizes(document);
        openingsWearPitch(document);
        newObject(document);
        roof(document);
        roofRefused(document);
        pitch(document);
        wear(document);
        opening(document);
        openingRefused(document);
    }

    private static void sizes(Sentences d) {
        d.part("Terms 1");
        d.says("6 each; 4 and 4 at first)", """
            count 0 = 4; count 1 = 4
            roof 1 1 = 1; roof 6 6 = 36; top 5 5 = NONE; top 6 5 = UNKNOWN; top 5 6 = UNKNOWN
            roof 0 6 = BAD; roof 6 0 = BAD; roof 7 6 = BAD; roof 6 7 = BAD; count 0 = 6; count 1 = 6
            """);
        d.says("ROW 0 at the eaves.", """
            lay 2 0 1 0 1 = 0; drop 2 0 = OFF; off 2 = 1
            lay 2 1 1 0 1 = 1; drop 2 1 = 20
            lay 1 3 1 0 1 = 2; drop 1 3 = 12
            lay 0 2 3 0 1 = 3; left 3 0 = 1; left 3 2 = 1; left 3 3 = 0
            """);
        d.says("A CELL is a COLUMN and a ROW.", """
            roof 2 3 = 6; lay 1 2 1 0 1 = 0; lay 0 1 1 0 1 = 1
            top 1 2 = 0; top 0 1 = 1; top 1 1 = NONE; top 1 0 = NONE; top 0 2 = NONE
            top 2 1 = UNKNOWN; top 1 3 = UNKNOWN; top -1 0 = UNKNOWN; top 0 -1 = UNKNOWN; top 0 10 = UNKNOWN
            """);
    }

    private static void openingsWearPitch(Sentences d) {
        d.part("Terms 1");
        d.says("A CELL may be an OPENING, at which water turns aside to the next COLUMN, left or right.", """
            roof 3 1 = 3; lay 0 0 1 0 1 = 0; lay 2 0 1 0 1 = 1
            opening 1 0 1 = 0; way 1 0 0 = 9910; way 1 0 1 = 0; off 0 = 2; off 2 = 1
            opening 1 0 2 = 1; way 1 0 0 = 9910; way 1 0 1 = 120; off 0 = 1; off 2 = 2
            opening 1 0 0 = 2; drop 1 0 = 10
            """);
        d.says("Its WEAR is 1 .. 3 (1 at first).", """
            wear 0 0 1 = 1; wear 3 3 3 = 1; wear 3 3 0 = BAD; wear 3 3 4 = BAD; wear 3 3 2 = 3; wear 3 3 1 = 2
            lay 0 0 1 0 9 = 0; years 1 = 1; wear 0 0 3 = 1; years 1 = 3; wear 0 0 2 = 3; years 1 = 2
            """);
        d.says("THE PITCH is 1 .. 3 (2 at first), THE LAP by it 2 rows (PITCH 1) or 1.", """
            pitch 0 = BAD; pitch 4 = BAD; pitch 2 = 2
            roof 1 3 = 3; lay 0 1 2 0 1 = 0; lay 0 2 2 0 1 = 1; drop 0 2 = OFF
            pitch 1 = 2; drop 0 2 = 0; pitch 3 = 1; drop 0 2 = OFF; pitch 2 = 3; drop 0 2 = OFF
            """);
        d.again("""
            roof 1 4 = 4; lay 0 2 3 0 1 = 0; lay 0 3 3 0 1 = 1; pitch 1 = 2; drop 0 3 = OFF
            roof 1 6 = 6; lay 0 2 3 0 1 = 0; lay 0 3 3 0 1 = 1; pitch 1 = 1; drop 0 3 = OFF
            """);
    }

    private static void newObject(Sentences d) {
        d.part("Promise 1");
        d.says("Four COLUMNS, four ROWS, bare.", """
            count 0 = 4; count 1 = 4; count 2 = 0; count 3 = 0; count 4 = 0; count 5 = 0
            top 0 0 = NONE; top 3 3 = NONE; top 4 3 = UNKNOWN; top 3 4 = UNKNOWN
            weight 0 = 0; weight 3 = 0; dry = 0; wet 3 3 = 1; leaks = 0; leakAt = 0
            about 0 0 = UNKNOWN; lay 3 3 3 5 9 = 0
            """);
    }

    private static void roof(Sentences d) {
        d.part("Promise 2");
        d.says("Another ROOF, bare, no OPENINGS, WEAR 1", """
            lay 0 3 3 0 9 = 0; opening 2 2 1 = 0; wear 1 1 3 = 1; wear 2 2 2 = 1
            roof 4 4 = 16; count 2 = 0; count 3 = 0; count 4 = 0; top 0 3 = NONE; left 0 3 = UNKNOWN; weight 0 = 0
            opening 2 2 0 = 0; wear 1 1 1 = 1; wear 2 2 1 = 1; lay 0 0 1 0 1 = 0; left 0 3 = 0; about 0 5 = 1
            """);
        d.again("""
            roof 6 6 = 36; lay 5 5 1 0 1 = 0; wear 5 5 3 = 1; opening 5 4 2 = 0; opening 0 5 1 = 0
            roof 1 1 = 1; count 4 = 0; top 0 0 = NONE; opening 0 0 1 = 0; wear 0 0 2 = 1
            roof 6 6 = 36; count 4 = 0; opening 0 0 0 = 0; wear 0 0 1 = 1
            wear 5 5 1 = 1; opening 5 4 0 = 0; opening 0 5 0 = 0; top 5 5 = NONE
            """);
        d.says("(PITCH, SORTS, THE TEXT stay; what was kept is gone)", """
            pitch 3 = 2; grew 0 1 2 = 99; grew 5 98 99 = 99; tell Y1; lay 0 0 1 0 1 = 0; keep 0 = 1; keep 1 = 1
            roof 1 6 = 6; pitch 1 = 3; grew 0 0 99 = 102; grew 5 0 99 = 9899; count 5 = 2; fault = NONE
            again 0 = LATE; again 1 = LATE; roof 4 4 = 16; again 0 = LATE; again 1 = LATE; pitch 2 = 1
            lay 3 3 1 0 1 = 0; keep 1 = 1; again 1 = 1; again 0 = LATE
            """);
        d.says("how many CELLS.", """
            roof 1 1 = 1; roof 1 6 = 6; roof 6 1 = 6; roof 6 6 = 36; roof 5 3 = 15; roof 3 5 = 15; roof 2 2 = 4
            """);
    }

    private static void roofRefused(Sentences d) {
        d.part("Promise 2");
        d.says("BAD.", """
            roof 3 5 = 15; lay 2 4 1 0 1 = 0; opening 0 0 2 = 0; wear 1 1 3 = 1; keep 0 = 1
            roof 0 4 = BAD; roof 7 4 = BAD; roof 4 0 = BAD; roof 4 7 = BAD; roof -1 4 = BAD; roof 4 -1 = BAD
            roof MIN 1 = BAD; roof 1 MIN = BAD; roof MAX MAX = BAD; roof 0 0 = BAD; roof 7 7 = BAD
            count 0 = 3; count 1 = 5; top 2 4 = 0; count 4 = 1; wear 1 1 1 = 3; again 0 = 1; again 1 = LATE
            """);
    }

    private static void pitch(Sentences d) {
        d.part("Promise 3");
        d.says("THE PITCH: what it was.", "pitch 1 = 2; pitch 2 = 1; pitch 3 = 2; pitch 3 = 3; pitch 1 = 3; pitch 1 = 1");
        d.says("BAD.", """
            pitch 3 = 2; pitch 0 = BAD; pitch 4 = BAD; pitch -1 = BAD; pitch MIN = BAD; pitch MAX = BAD; pitch 1 = 3
            """);
    }

    private static void wear(Sentences d) {
        d.part("Promise 4");
        d.says("WEAR of a CELL: what it was.", """
            wear 0 0 3 = 1; wear 0 0 2 = 3; wear 0 0 1 = 2; wear 0 0 1 = 1
            wear 3 0 3 = 1; wear 0 3 2 = 1; wear 3 0 1 = 3; wear 0 3 1 = 2; wear 0 1 1 = 1; wear 1 0 1 = 1
            opening 2 2 1 = 0; wear 2 2 3 = 1; opening 2 2 0 = 1; wear 2 2 1 = 3
            """);
        d.says("UNKNOWN;", """
            wear -1 0 1 = UNKNOWN; wear 4 0 1 = UNKNOWN; wear 0 -1 1 = UNKNOWN; wear 0 4 1 = UNKNOWN
            wear MIN 0 1 = UNKNOWN; wear 0 MAX 1 = UNKNOWN; wear 3 3 1 = 1
            wear 4 0 0 = UNKNOWN; wear 0 4 4 = UNKNOWN; wear -1 -1 -1 = UNKNOWN
            """);
        d.says("BAD.", """
            wear 1 2 3 = 1; wear 1 2 0 = BAD; wear 1 2 4 = BAD; wear 1 2 -1 = BAD; wear 1 2 MAX = BAD
            wear 1 2 MIN = BAD; wear 1 2 3 = 3
            """);
    }

    private static void opening(Sentences d) {
        d.part("Promise 5");
        d.says("A CELL is an OPENING at which water turns left (1), right (2), or it is none (0): what it was.", """
            opening 1 2 1 = 0; way 1 2 0 = 9912; drop 1 2 = 2; opening 1 2 2 = 1; drop 1 2 = 22
            opening 1 2 2 = 2; count 4 = 1; opening 1 2 0 = 2; drop 1 2 = 12; way 1 2 0 = NONE; count 4 = 0
            opening 1 2 0 = 0; lay 1 2 1 0 1 = 0
            """);
        d.again("""
            opening 0 0 1 = 0; opening 3 3 2 = 0; opening 0 3 2 = 0; opening 3 0 1 = 0; count 4 = 4
            opening 3 0 0 = 1; opening 0 3 0 = 2; opening 3 3 0 = 2; opening 0 0 0 = 1
            """);
    }

    private static void openingRefused(Sentences d) {
        d.part("Promise 5");
        d.says("UNKNOWN;", """
            opening -1 0 1 = UNKNOWN; opening 4 0 1 = UNKNOWN; opening 0 -1 1 = UNKNOWN; opening 0 4 1 = UNKNOWN
            opening MAX 0 1 = UNKNOWN; opening 0 MIN 1 = UNKNOWN; opening 4 0 3 = UNKNOWN; opening 0 4 -1 = UNKNOWN
            count 4 = 0
            """);
        d.says("BAD;", """
            opening 1 1 2 = 0; opening 1 1 3 = BAD; opening 1 1 -1 = BAD; opening 1 1 MAX = BAD; opening 1 1 MIN = BAD
            opening 1 1 2 = 2; lay 0 0 1 0 1 = 0; opening 0 0 3 = BAD; opening 0 0 -1 = BAD
            """);
        d.says("LATE: something lies on it.", """
            lay 1 2 2 0 1 = 0; lay 1 1 1 0 1 = 1; opening 1 2 1 = LATE; opening 1 1 2 = LATE; opening 1 2 0 = LATE
            count 4 = 0; opening 1 3 1 = 0; opening 1 0 1 = 0; opening 0 2 1 = 0; opening 2 1 1 = 0; count 4 = 4
            years 1 = 2; opening 1 2 1 = 0; opening 1 1 1 = LATE; top 1 1 = 0; strip 1 1 = 1; opening 1 1 1 = 0
            """);
    }
}
