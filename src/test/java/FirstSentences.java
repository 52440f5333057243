/** What it is: the lines ahead of the face and the terms. */
final class FirstSentences {
    private FirstSentences() {
    }

    static void tell(Sentences document) {
        document.part("What it is");
        rain(document);
        years(document);
        oldCoats(document);
        fireAndOffers(document);
        history(document);
        boundsAndCalls(document);
    }

    private static void rain(Sentences d) {
        d.says("Reeds by the armful: a roof of straw, laid bundle over bundle from eaves to ridge or the wrong way;", """
            roof 1 4 = 4; lay 0 1 2 0 1 = 0; lay 0 3 3 0 1 = 1; dry = 1; drop 0 3 = OFF
            roof 1 4 = 4; lay 0 3 3 0 1 = 0; lay 0 1 2 0 1 = 1; dry = 0; drop 0 3 = 0
            """);
        d.says("drops that run along a bundle, under another one, from end to end, round a chimney, or in;"
                + " which way each went;", """
            roof 2 4 = 8; lay 0 1 2 0 1 = 0; lay 0 3 3 0 1 = 1; lay 0 2 1 0 1 = 2; lay 1 3 1 0 1 = 3; opening 1 2 1 = 0
            way 0 3 0 = 103; way 0 3 1 = 102; way 0 3 2 = 101; way 0 3 3 = 0; way 0 3 4 = NONE; drop 0 3 = OFF
            way 1 3 0 = 313; way 1 3 1 = 9912; way 1 3 2 = 202; way 1 3 3 = 101; way 1 3 4 = 0; drop 1 3 = OFF
            way 1 1 0 = NONE; drop 1 1 = 11
            """);
    }

    private static void years(Sentences d) {
        d.says("years that wear what lies on top, by sun, trees and moss, till it first leaks;", """
            roof 1 1 = 1; lay 0 0 1 0 3 = 0; lay 0 0 1 0 2 = 1; leaks = 5; wear 0 0 2 = 1; leaks = 3; wear 0 0 3 = 2
            leaks = 2; years 1 = 2; left 0 0 = 3; left 1 0 = 0; dry = 1; leaks = 1; years 1 = 3; dry = 0
            """);
        d.says("weight, what must be stripped;", """
            lay 0 3 3 0 4 = 0; lay 0 0 1 0 1 = 1; weight 0 = 13; heavy 0 13 = 0; heavy 0 12 = 1; heavy 0 11 = 2
            strip 0 1 = 1; weight 0 = 12; heavy 0 12 = 0
            """);
        d.says("the fewest bundles by which a roof is dry;", """
            roof 1 4 = 4; fewest 0 3 = 10; lay 0 3 3 0 1 = 0; dry = 0; strip 0 1 = 1; lay 0 1 3 0 1 = 1; dry = 0
            lay 0 3 3 0 1 = 2; dry = 1
            """);
    }

    private static void oldCoats(Sentences d) {
        d.says("old coats told by sorts of straw that grew in told years: when each was laid, which can not be so,"
                + " in how many ways;", """
            grew 0 10 15 = 99; grew 1 8 12 = 99; lay 0 0 1 0 1 = 0; lay 0 0 1 1 1 = 1; when 0 false = 10; when 0 true = 12
            when 1 false = 10; when 1 true = 12; wrong = NONE; ways 0 = 6; grew 1 8 9 = 812; wrong = 1; ways 0 = 0
            when 0 false = NONE
            """);
    }

    private static void fireAndOffers(Sentences d) {
        d.says("sparks and what burns, the worst one, the cell that is to be cleared;", """
            lay 0 0 1 0 1 = 0; lay 2 2 3 0 1 = 1; burnt 0 0 0 = 1; burnt 2 0 0 = 3; burnt 0 0 1 = 4; worst 0 = 20
            worst 1 = 0; clear 0 = 21; clear 1 = 20
            """);
        d.says("two offers held against one another over years;", """
            roof 1 1 = 1; offer 5 0 1 1 1 = 5; offer 12 0 1 3 1 = 12; offer 5 0 1 1 3 = 15; offer 12 0 1 3 3 = 12
            offer 5 0 1 1 4 = 20; offer 12 0 1 3 4 = 24; offer 5 0 1 1 99 = 495; offer 12 0 1 3 99 = 396; weight 0 = 0
            """);
    }

    private static void history(Sentences d) {
        d.says("a history of laying told as a text, with the first fault, done and gone on from what was kept.", """
            tell B00109B00109; fault = NONE; done = 2; keep 0 = 2; tell Y9X; fault = 2; done = LATE; tell Y9; done = 1
            weight 0 = 9; again 0 = 2; weight 0 = 18; tell S01B11109; done = 2; weight 0 = 9; weight 1 = 9; count 2 = 3
            """);
    }

    private static void boundsAndCalls(Sentences d) {
        d.says("THE ROOF has C COLUMNS and R ROWS (1 ..", """
            count 0 = 4; count 1 = 4; roof 1 1 = 1; count 0 = 1; count 1 = 1; roof 0 1 = BAD; roof 1 0 = BAD
            roof 2 3 = 6; count 0 = 2; count 1 = 3
            """);
        d.says("An object is used for at most 512 calls after it has been made; what later calls answer is free.",
                "lay 0 3 3 0 9 = 0; " + "lay 0 0 4 0 1 = BAD; years 1 = 3; again 0 = LATE; ".repeat(9)
                + "fault = NONE; ".repeat(483) + "about 0 5 = 0");
    }
}
