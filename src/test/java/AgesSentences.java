/** Terms 4 and promises 24 to 28: sorts, what lies over what, and when it was laid. */
final class AgesSentences {
    private AgesSentences() {
    }

    static void tell(Sentences document) {
        overAndWhen(document);
        wrongTerms(document);
        waysTerms(document);
        grew(document);
        over(document);
        when(document);
        whenRefused(document);
        wrong(document);
        ways(document);
    }

    private static void overAndWhen(Sentences d) {
        d.part("Terms 4");
        d.says("SORTS grew from a YEAR to a YEAR (0 .. 99; 0 to 99 at first).", """
            lay 0 0 1 0 1 = 0; when 0 false = 0; when 0 true = 99
            grew 0 0 0 = 99; grew 5 99 99 = 99; grew 1 0 99 = 99; grew 2 -1 99 = BAD; grew 2 0 100 = BAD; grew 2 0 0 = 99
            grew 3 0 99 = 99; grew 4 0 99 = 99; grew 5 0 99 = 9999; when 0 true = 0
            """);
        d.says("A BUNDLE lies OVER another one, if both lie on some CELL and it was laid later.", """
            roof 2 6 = 12; lay 0 5 3 0 9 = 0; lay 0 3 3 0 1 = 1; lay 0 2 3 0 9 = 2; lay 1 5 3 0 9 = 3; over 1 0 = 1
            over 0 1 = 0; over 2 0 = 0; over 2 1 = 1; over 3 0 = 0; over 1 1 = 0; wear 0 3 2 = 1; years 1 = 9
            over 1 0 = 0; over 2 1 = 1; left 1 3 = 0; left 1 2 = 1
            """);
        d.says("WHEN a BUNDLE was laid: a YEAR in which its SORT grew, no earlier than any that it lies OVER.", """
            grew 0 10 20 = 99; grew 1 5 15 = 99; lay 0 0 1 0 1 = 0; lay 0 0 1 1 1 = 1; lay 1 0 1 1 1 = 2
            when 0 false = 10; when 0 true = 15; when 1 false = 10; when 1 true = 15; when 2 false = 5; when 2 true = 15
            """);
        d.says("EARLIEST, LATEST of a BUNDLE: of all ways to give YEARS to all.", """
            grew 0 50 60 = 99; grew 2 40 55 = 99; lay 0 3 2 0 1 = 0; lay 0 2 2 1 1 = 1; lay 0 1 2 2 1 = 2; over 2 0 = 0
            when 0 false = 50; when 0 true = 55; when 1 false = 50; when 1 true = 55; when 2 false = 50; when 2 true = 55
            strip 0 1 = 1; when 0 true = 60; when 1 false = 50; when 1 true = 99
            """);
    }

    private static void wrongTerms(Sentences d) {
        d.part("Terms 4");
        d.says("WRONG: the first BUNDLE by number that can have no YEAR, those ahead of it looked at alone; NONE.", """
            wrong = NONE; grew 0 50 60 = 99; grew 1 40 49 = 99; grew 2 50 50 = 99; lay 0 0 1 1 1 = 0; lay 0 0 1 0 1 = 1
            wrong = NONE; lay 0 0 1 1 1 = 2; lay 0 0 1 1 1 = 3; wrong = 2; strip 0 1 = 1; wrong = 2; strip 0 1 = 1
            wrong = NONE; lay 0 0 1 2 1 = 4; wrong = NONE; grew 2 49 49 = 5050; wrong = 4
            """);
        d.again("""
            grew 0 50 60 = 99; grew 2 0 49 = 99; lay 0 3 2 0 1 = 0; lay 0 2 2 1 1 = 1; lay 0 1 2 2 1 = 2; over 2 0 = 0
            wrong = 2; grew 2 0 50 = 49; wrong = NONE; grew 0 51 51 = 5060; wrong = 2
            """);
    }

    private static void waysTerms(Sentences d) {
        d.part("Terms 4");
        d.says("WAYS of a COLUMN: in how many ways YEARS can be given to the BUNDLES that lie in it anywhere (by their"
                + " SORTS, and none earlier than one that it lies OVER there);", """
            grew 0 0 9 = 99; grew 1 9 18 = 99; lay 0 3 1 0 1 = 0; ways 0 = 10; lay 0 0 1 0 1 = 1; ways 0 = 100
            lay 0 0 1 0 1 = 2; ways 0 = 550; lay 0 3 1 1 1 = 3; ways 0 = 5500; lay 1 0 1 1 9 = 4; lay 1 0 1 0 1 = 5
            ways 1 = 1; strip 1 1 = 1; ways 1 = 10; grew 1 10 18 = 918; lay 1 0 1 0 1 = 6; ways 1 = 0; ways 0 = 4950
            """);
        d.says("asked only if there are 5 at most, and SORTS of them grew in 10 YEARS each at most.", """
            grew 0 90 99 = 99; lay 0 0 1 0 1 = 0 .. 4; ways 0 = 2002; lay 1 0 1 1 1 = 5; ways 0 = 2002; ways 1 = LATE
            lay 0 3 1 0 1 = 6; ways 0 = LATE; strip 0 1 = 1; ways 0 = 2002; grew 0 89 99 = 9099; ways 0 = LATE
            grew 0 89 98 = 8999; ways 0 = 2002; strip 0 4 = 4; ways 0 = 10; grew 1 0 10 = 99; ways 1 = LATE
            grew 1 0 9 = 10; ways 1 = 10
            """);
    }

    private static void grew(Sentences d) {
        d.part("Promise 24");
        d.says("A SORT grew from a YEAR to a YEAR: 100 times the first and the last it was told.", """
            grew 0 0 0 = 99; grew 0 99 99 = 0; grew 0 0 99 = 9999; grew 0 7 8 = 99; grew 0 0 99 = 708; grew 5 1 98 = 99
            grew 5 3 3 = 198; grew 5 0 1 = 303; grew 1 0 99 = 99
            """);
        d.says("UNKNOWN;", """
            grew -1 0 1 = UNKNOWN; grew 6 0 1 = UNKNOWN; grew MIN 0 1 = UNKNOWN; grew MAX 0 1 = UNKNOWN
            grew 6 1 0 = UNKNOWN
            grew -1 -1 100 = UNKNOWN
            """);
        d.says("BAD.", """
            grew 0 3 4 = 99; grew 0 -1 4 = BAD; grew 0 3 100 = BAD; grew 0 4 3 = BAD; grew 0 99 98 = BAD
            grew 0 100 100 = BAD
            grew 0 -1 -1 = BAD; grew 0 MIN MAX = BAD; grew 0 MAX MIN = BAD; grew 5 100 99 = BAD; grew 0 4 4 = 304
            """);
    }

    private static void over(Sentences d) {
        d.part("Promise 25");
        d.says("Whether a BUNDLE lies OVER another one: 1, 0.", """
            lay 0 2 2 0 1 = 0; lay 0 1 2 0 2 = 1; lay 1 2 2 0 3 = 2; lay 0 3 1 0 1 = 3; lay 0 3 2 0 1 = 4
            over 1 0 = 1; over 0 1 = 0; over 0 0 = 0; over 1 1 = 0; over 2 0 = 0; over 3 0 = 0; over 4 0 = 1; over 4 1 = 0
            over 4 3 = 1; strip 0 1 = 1; over 4 3 = 0; over 1 0 = 1; wear 0 1 2 = 1; years 1 = 7; over 1 0 = 0
            """);
        d.again("""
            roof 6 6 = 36; lay 5 5 3 0 9 = 0 .. 39; over 39 0 = 1; over 39 38 = 1; over 38 39 = 0; over 39 39 = 0
            over 1 0 = 1
            """);
        d.says("UNKNOWN.", """
            over 0 0 = UNKNOWN; lay 0 0 1 0 1 = 0; over 0 0 = 0; over 1 0 = UNKNOWN; over 0 1 = UNKNOWN; over -1 0 = UNKNOWN
            over 0 -1 = UNKNOWN; over MIN 0 = UNKNOWN; over 0 MAX = UNKNOWN; over 40 0 = UNKNOWN; over 0 63 = UNKNOWN
            """);
    }

    private static void when(Sentences d) {
        d.part("Promise 26");
        d.says("EARLIEST (late = false), LATEST;", """
            lay 0 0 1 0 1 = 0; when 0 false = 0; when 0 true = 99; grew 0 5 5 = 99; when 0 false = 5; when 0 true = 5
            lay 0 0 1 1 1 = 1 .. 38; lay 0 0 1 2 1 = 39; grew 2 0 7 = 99; when 39 false = 5; when 39 true = 7
            when 1 false = 5; when 38 true = 7; when 0 true = 5; when 20 false = 5; when 20 true = 7
            grew 2 0 5 = 7; when 20 true = 5; when 39 true = 5; grew 0 0 99 = 505; when 0 true = 5; when 39 false = 0
            """);
        d.says("NONE: it can have no YEAR by all ways, as some BUNDLE is WRONG.", """
            grew 0 50 60 = 99; grew 1 40 49 = 99; lay 3 3 1 0 1 = 0; lay 0 0 1 0 1 = 1; when 0 false = 50; lay 0 0 1 1 1 = 2
            when 0 false = NONE; when 1 true = NONE; when 2 false = NONE; lay 2 2 1 5 1 = 3; when 3 true = NONE
            grew 1 40 50 = 4049; when 0 true = 60; when 1 true = 50; when 2 false = 50; when 3 true = 99
            """);
    }

    private static void whenRefused(Sentences d) {
        d.part("Promise 26");
        d.says("UNKNOWN;", """
            when 0 false = UNKNOWN; lay 0 0 1 0 1 = 0; when 1 false = UNKNOWN; when -1 true = UNKNOWN
            when MIN true = UNKNOWN
            when MAX false = UNKNOWN; when 40 false = UNKNOWN; when 0 true = 99
            """);
        d.says("LATE: nothing is left of it.", """
            lay 0 0 1 0 1 = 0; lay 1 1 2 0 2 = 1; strip 0 1 = 1; when 0 false = LATE; when 0 true = LATE; when 1 false = 0
            wear 1 1 2 = 1; years 1 = 3; when 1 true = 99; years 1 = 1; when 1 true = LATE; when 2 true = UNKNOWN
            """);
        d.again("""
            grew 0 50 60 = 99; grew 1 40 49 = 99; lay 3 3 1 0 1 = 0; strip 3 1 = 1; lay 0 0 1 0 1 = 1; lay 0 0 1 1 1 = 2
            when 0 false = LATE; when 1 false = NONE
            """);
    }

    private static void wrong(Sentences d) {
        d.part("Promise 27");
        d.says("WRONG.", """
            wrong = NONE; lay 0 0 1 0 1 = 0; wrong = NONE; grew 0 1 1 = 99; grew 1 0 0 = 99; lay 0 0 1 1 1 = 1; wrong = 1
            lay 1 0 1 0 1 = 2 .. 38; lay 1 0 1 1 1 = 39; wrong = 1; strip 0 1 = 1; wrong = 39; strip 1 1 = 1; wrong = NONE
            roof 4 4 = 16; wrong = NONE; lay 0 0 1 1 1 = 0; lay 0 0 1 0 1 = 1; wrong = NONE; grew 1 2 2 = 0; wrong = 1
            """);
    }

    private static void ways(Sentences d) {
        d.part("Promise 28");
        d.says("WAYS of a COLUMN.", """
            ways 0 = 1; ways 3 = 1; grew 0 0 0 = 99; grew 1 99 99 = 99; lay 0 0 1 0 1 = 0; ways 0 = 1; lay 0 0 1 1 1 = 1
            ways 0 = 1; lay 0 0 1 0 1 = 2; ways 0 = 0; lay 3 0 1 0 1 = 3; ways 3 = 1
            """);
        d.again("""
            roof 6 6 = 36; grew 0 0 9 = 99; lay 5 5 1 0 1 = 0; lay 5 4 1 0 1 = 1; lay 5 3 1 0 1 = 2; lay 5 2 1 0 1 = 3
            lay 5 1 1 0 1 = 4; ways 5 = 100000; lay 4 5 3 0 1 = 5; lay 4 3 3 0 1 = 6; lay 4 3 1 0 1 = 7; ways 4 = 220
            lay 4 5 1 0 1 = 8; ways 4 = 1705
            """);
        d.says("UNKNOWN;", "ways -1 = UNKNOWN; ways 4 = UNKNOWN; ways MIN = UNKNOWN; ways MAX = UNKNOWN; ways 3 = 1");
        d.says("LATE: there are more than 5, or a SORT grew longer.", """
            lay 0 0 1 0 1 = 0; ways 0 = LATE; grew 0 0 10 = 99; ways 0 = LATE; grew 0 0 9 = 10; ways 0 = 10
            lay 0 1 1 0 1 = 1 .. 4; ways 0 = 7150; lay 0 2 1 1 1 = 5; ways 0 = LATE; grew 1 5 5 = 99; ways 0 = LATE
            strip 0 2 = 2; ways 0 = 2200; lay 0 2 1 1 1 = 6; ways 0 = 2200; grew 1 5 15 = 505; ways 0 = LATE; ways 1 = 1
            """);
    }
}
