/** Terms 6 and promises 33 to 39: the text, its faults, doing it, slots, counts, and refusals in general. */
final class HistorySentences {
    /** Ten bundles told: a text of sixty bytes. */
    private static final String SIXTY = "B00101".repeat(10);

    private HistorySentences() {
    }

    static void tell(Sentences document) {
        historyTerms(document);
        faultTerms(document);
        doneTerms(document);
        slotTerms(document);
        refusals(document);
        refusedChangesNothing(document);
        noneAndCells(document);
        write(document);
        wipe(document);
        fault(document);
        done(document);
        doneRefused(document);
        keep(document);
        again(document);
        count(document);
    }

    private static void historyTerms(Sentences d) {
        d.part("Terms 6");
        d.says("A HISTORY is a TEXT (bytes, 60 at most) of PARTS:",
                "tell " + SIXTY + "; count 5 = 60; fault = NONE; write 1 0x59 = FULL; count 5 = 60; done = 10");
        d.says("B and five figures (COLUMN, ROW, LENGTH, SORT, THICKNESS),", """
            tell B33359; fault = NONE; done = 1; about 0 0 = 3; about 0 1 = 3; about 0 2 = 3; about 0 3 = 5; about 0 4 = 9
            tell B00101; fault = NONE; done = 1; about 1 0 = 0; about 1 1 = 0; about 1 2 = 1; about 1 3 = 0; about 1 4 = 1
            tell B01234; done = 1; about 2 0 = 0; about 2 1 = 1; about 2 2 = 2; about 2 3 = 3; about 2 4 = 4
            tell B40101; fault = 1; tell B04101; fault = 2; tell B00001; fault = 3; tell B00401; fault = 3
            tell B00161; fault = 4; tell B00100; fault = 5; tell B00191; fault = 4; count 2 = 3
            """);
        d.again("""
            tell B:0101; fault = 1; tell B0:101; fault = 2; tell B00:01; fault = 3; tell B001:1; fault = 4
            tell B0010:; fault = 5; tell B/0101; fault = 1; tell B0/101; fault = 2; tell B00/01; fault = 3
            tell B001/1; fault = 4; tell B0010/; fault = 5; tell b00101; fault = 0
            """);
        d.says("Y and a figure (so many YEARS, 1 .. 9),", """
            lay 0 0 1 0 9 = 0; lay 1 0 1 0 9 = 1; tell Y0; fault = 1; tell Y1; fault = NONE; done = 1; weight 0 = 8
            tell Y:; fault = 1
            tell Y/; fault = 1; tell Y9; fault = NONE; done = 1; weight 0 = 0; tell y1; fault = 0; tell YY; fault = 1
            """);
        d.says("S and two figures (a COLUMN, how many, 1 .. 9).", """
            lay 3 0 1 0 1 = 0 .. 10; lay 0 0 1 0 1 = 11; tell S31; fault = NONE; done = 1; weight 3 = 10; tell S39; done = 1
            weight 3 = 1; weight 0 = 1; tell S09; done = 1; weight 0 = 0; tell S41; fault = 1; tell S30; fault = 2
            tell S3:; fault = 2; tell S3/; fault = 2; tell S/1; fault = 1; tell S:1; fault = 1; tell s31; fault = 0
            """);
    }

    private static void faultTerms(Sentences d) {
        d.part("Terms 6");
        d.says("FAULT: the first byte by which it can be none (COLUMNS, ROWS as THE ROOF has now),", """
            tell Y1B33101S31; fault = NONE; roof 4 3 = 12; fault = 4; roof 3 4 = 12; fault = 3; roof 1 1 = 1; fault = 3
            roof 6 6 = 36; fault = NONE; tell B55101S51; fault = NONE; roof 6 5 = 30; fault = 2; roof 5 6 = 30; fault = 1
            tell S51; fault = 1; tell X; fault = 0; tell Y1X; fault = 2; tell Y1Y0Y0; fault = 3; tell 1; fault = 0
            """);
        d.says("its length if it is only not at its end;", """
            tell B; fault = 1; tell B0; fault = 2; tell B00; fault = 3; tell B001; fault = 4; tell B0010; fault = 5
            tell Y; fault = 1; tell S; fault = 1; tell S0; fault = 2; tell Y1B; fault = 3; tell S01Y; fault = 4
            """);
        d.again("tell " + SIXTY.substring(0, 59) + "; fault = 59; write 1 0x31 = 60; fault = NONE; tell "
                + "Y1".repeat(30) + "; fault = NONE");
        d.says("NONE: none, as of an empty one.", """
            fault = NONE; tell Y1; fault = NONE; tell Y; fault = 1; wipe = 1; fault = NONE; done = 0
            """);
    }

    private static void doneTerms(Sentences d) {
        d.part("Terms 6");
        d.says("It is DONE PART by PART till one can not be (a BUNDLE that may not be laid).", """
            tell B01205B02237Y2S01; done = 4; count 2 = 2; left 0 0 = 3; left 0 1 = 5; about 1 5 = 0
            opening 1 1 1 = 0; tell Y1B11109Y9S09; fault = NONE; done = 1; weight 0 = 6; count 2 = 2
            tell B11101; done = 0; tell S09S09S39; done = 3; weight 0 = 0
            """);
        d.again("""
            lay 0 0 1 0 1 = 0 .. 38; tell B00101B00101S01; done = 1; count 2 = 40; weight 0 = 40; done = 0; tell S01
            done = 1; weight 0 = 39
            """);
    }

    private static void slotTerms(Sentences d) {
        d.part("Terms 6");
        d.says("SLOTS 0 .. 1 keep all BUNDLES.", """
            keep -1 = UNKNOWN; keep 2 = UNKNOWN; lay 0 0 1 0 9 = 0; keep 0 = 1; lay 1 3 3 5 9 = 1; keep 1 = 2; strip 1 1 = 1
            years 2 = 2; again 0 = 1; weight 0 = 9; about 1 0 = UNKNOWN; again 1 = 2; about 1 5 = 27; weight 0 = 9
            again -1 = UNKNOWN; again 2 = UNKNOWN
            """);
        d.again("""
            lay 3 3 3 5 9 = 0 .. 39; keep 1 = 40; strip 3 9 = 9; years 99 = 297; again 1 = 40; weight 3 = 1080
            top 3 3 = 39; again 0 = LATE
            """);
    }

    private static void refusals(Sentences d) {
        d.part("Terms 6");
        d.says("REFUSALS: UNKNOWN -1 (there is no such COLUMN, ROW, BUNDLE, SORT, SLOT), BAD -2, LATE -3, FULL -4.", """
            top 4 0 = -1; top 0 4 = -1; about 0 0 = -1; grew 6 0 0 = -1; keep 2 = -1; pitch 0 = -2; again 0 = -3
            tell Y1Y1Y1Y1Y1Y1Y1Y1Y1Y1Y1Y1Y1Y1Y1Y1Y1Y1Y1Y1Y1Y1Y1Y1Y1Y1Y1Y1Y1Y1; write 1 0x59 = -4
            lay 0 0 1 0 1 = 0 .. 39; lay 0 0 1 0 1 = -4
            """);
        d.says("Of several what is told first.", """
            lay 0 0 1 0 1 = 0 .. 39; opening 1 1 1 = 0; lay 1 1 1 0 1 = LATE; lay 1 1 0 0 1 = BAD; lay 1 1 0 6 1 = UNKNOWN
            lay 0 0 1 0 10 = BAD; lay 4 0 0 0 0 = UNKNOWN; opening 0 0 3 = BAD; opening 4 0 3 = UNKNOWN
            wear 4 0 0 = UNKNOWN
            strip 4 0 = UNKNOWN; about 40 6 = UNKNOWN; depth 4 0 2 = UNKNOWN; heavy 4 -1 = UNKNOWN; fewest 4 0 = UNKNOWN
            proof 4 0 -1 = UNKNOWN; grew 6 1 0 = UNKNOWN; ways 4 = UNKNOWN; ways 0 = LATE; burnt 4 0 5 = UNKNOWN
            again 2 = UNKNOWN; again 1 = LATE; strip 0 1 = 1; when 39 true = LATE; when 40 true = UNKNOWN
            """);
        d.again("tell " + SIXTY + "; write 9 0 = BAD; write 0 0 = BAD; write 1 0 = FULL");
    }

    private static void refusedChangesNothing(Sentences d) {
        d.part("Terms 6");
        d.says("What is refused changes nothing.", """
            lay 0 2 3 0 9 = 0; opening 2 2 1 = 0; wear 1 1 3 = 1; pitch 3 = 2; grew 0 10 20 = 99; tell Y; keep 0 = 1
            roof 7 1 = BAD; roof 1 7 = BAD; pitch 4 = BAD; wear 1 1 4 = BAD; wear 4 1 1 = UNKNOWN; opening 2 2 3 = BAD
            opening 0 0 1 = LATE; opening 2 4 1 = UNKNOWN; lay 2 2 1 0 1 = LATE; lay 0 0 1 0 10 = BAD
            lay 0 0 1 6 1 = UNKNOWN
            strip 0 10 = BAD; strip 4 1 = UNKNOWN; years 100 = BAD; grew 0 20 10 = BAD; grew 6 0 0 = UNKNOWN
            write 9 0 = BAD; done = LATE; keep 2 = UNKNOWN; again 1 = LATE; again 2 = UNKNOWN
            count 0 = 4; count 1 = 4; count 2 = 1; count 3 = 1; count 4 = 1; count 5 = 1; weight 0 = 27; top 0 0 = 0
            opening 2 2 1 = 1; wear 1 1 3 = 3; pitch 3 = 3; grew 0 10 20 = 1020; fault = 1; again 0 = 1; lay 3 3 1 0 1 = 1
            """);
    }

    private static void noneAndCells(Sentences d) {
        d.part("Terms 6");
        d.says("NONE is -9.", """
            top 0 0 = -9; way 0 0 0 = -9; wrong = -9; worst 0 = -9; clear 0 = -9; fault = -9; fewest 0 1 = -9
            offer 0 0 1 1 1 = -9; grew 1 0 0 = 99; grew 2 1 1 = 99; lay 0 0 1 2 1 = 0; lay 0 0 1 1 1 = 1; when 0 true = -9
            roof 1 1 = 1; opening 0 0 1 = 0; leaks = -9; leakAt = -9
            """);
        d.says("A CELL is told as 10 times its COLUMN and its ROW.", """
            roof 6 6 = 36; drop 5 4 = 54; drop 4 5 = 45; drop 0 5 = 5; drop 5 0 = 50; lay 4 2 1 0 1 = 0; worst 0 = 42
            clear 0 = 42; way 4 2 0 = 42; drop 4 2 = 41; opening 3 1 2 = 0; way 3 1 0 = 9931; leakAt = 0
            roof 2 2 = 4; lay 0 1 2 0 1 = 0; lay 1 0 1 0 1 = 1; leakAt = 11
            """);
    }

    private static void write(Sentences d) {
        d.part("Promise 33");
        d.says("n bytes (1 .. 8) of v, the lowest n, the highest of these first, come behind THE TEXT: how long it is.", """
            write 1 0x7759 = 1; fault = 1; write 1 0x31 = 2; fault = NONE; write 2 0x77775932 = 4; fault = NONE; done = 2
            wipe = 4; write 6 0x7777423233323334 = 6; fault = NONE; done = 1; about 0 0 = 2; about 0 1 = 3; about 0 2 = 2
            about 0 3 = 3; about 0 4 = 4; write 8 0x5931593259335934 = 14; fault = NONE; done = 5; write 8 -1 = 22
            fault = 14
            wipe = 22; write 1 -167 = 1; fault = 1; wipe = 1; write 1 217 = 1; fault = 0; wipe = 1; write 8 0x59 = 8
            fault = 0
            """);
        d.says("BAD;", """
            write 0 0x59 = BAD; write 9 0x59 = BAD; write -1 0x59 = BAD; write MIN 0 = BAD; write MAX 0 = BAD; count 5 = 0
            write 1 0x59 = 1; write 8 0 = 9
            """);
        d.again("tell " + SIXTY + "; write 0 0 = BAD; write 9 0 = BAD; write MIN 0 = BAD; write MAX 0 = BAD");
        d.says("FULL: it would be longer than 60 (nothing comes).",
                "tell " + SIXTY.substring(0, 53) + "; write 8 0x3130313031303130 = FULL; count 5 = 53; fault = 53;"
                + " write 7 0x31423030313031 = 60; fault = NONE; write 1 0x59 = FULL; write 8 0 = FULL; wipe = 60");
        d.again("tell " + SIXTY.substring(0, 52) + "; write 8 0x3031423030313031 = 60; fault = NONE; write 1 0 = FULL;"
                + " wipe = 60; write 1 0x59 = 1");
    }

    private static void wipe(Sentences d) {
        d.part("Promise 34");
        d.says("THE TEXT is empty: how long it was.", """
            wipe = 0; write 1 0x59 = 1; wipe = 1; count 5 = 0; fault = NONE; wipe = 0; tell Y1; count 5 = 2; fault = NONE
            """);
        d.again("tell " + SIXTY + "; wipe = 60; wipe = 0; count 5 = 0; done = 0; write 8 0 = 8");
    }

    private static void fault(Sentences d) {
        d.part("Promise 35");
        d.says("FAULT; NONE.", """
            fault = NONE; write 1 0 = 1; fault = 0; wipe = 1; write 1 0xd9 = 1; fault = 0; tell Y1S01B00101Y; fault = 12
            write 1 0x30 = 13; fault = 12; write 1 0x31 = 14; fault = 12
            """);
        d.again("""
            opening 0 0 1 = 0; tell B00101; fault = NONE; lay 1 0 1 0 1 = 0 .. 39; tell B10101; fault = NONE; done = 0
            """);
    }

    private static void done(Sentences d) {
        d.part("Promise 36");
        d.says("THE HISTORY is DONE (THE TEXT itself stays): how many PARTS were.", """
            done = 0; tell B00109; done = 1; count 5 = 6; done = 1; count 2 = 2; count 5 = 6; tell Y1Y1S09; done = 3
            count 5 = 7
            weight 0 = 0; fault = NONE; wipe = 7; done = 0
            """);
        d.again("tell " + "Y1".repeat(30) + "; done = 30; count 5 = 60; fault = NONE");
        d.again("tell " + SIXTY + "; done = 10; done = 10; done = 10; done = 10; done = 0; count 2 = 40; count 5 = 60");
    }

    private static void doneRefused(Sentences d) {
        d.part("Promise 36");
        d.says("LATE: a FAULT (nothing is done).", """
            lay 0 0 1 0 9 = 0; tell Y1Y; done = LATE; weight 0 = 9; tell Y1X; done = LATE; weight 0 = 9
            tell B00101B0010; done = LATE
            count 2 = 1; count 5 = 11; tell S01Y0; done = LATE; count 3 = 1; tell Y1B40101; done = LATE; weight 0 = 9
            tell X; done = LATE; tell B30101; roof 3 4 = 12; done = LATE; roof 4 4 = 16; done = 1
            """);
    }

    private static void keep(Sentences d) {
        d.part("Promise 37");
        d.says("All BUNDLES are kept: how many were laid.", """
            keep 0 = 0; lay 0 0 1 0 1 = 0; lay 3 3 3 5 9 = 1; keep 0 = 2; strip 0 1 = 1; keep 1 = 2; years 99 = 27
            keep 1 = 2
            again 0 = 2; weight 0 = 1; weight 3 = 27; again 1 = 2; count 3 = 0; lay 0 0 1 0 1 = 2 .. 39; keep 0 = 40
            again 1 = 2; again 0 = 40
            """);
        d.says("UNKNOWN.", """
            keep -1 = UNKNOWN; keep 2 = UNKNOWN; keep MIN = UNKNOWN; keep MAX = UNKNOWN; again 0 = LATE
            again 1 = LATE
            """);
    }

    private static void again(Sentences d) {
        d.part("Promise 38");
        d.says("They are as they were kept: how many were laid.", """
            lay 0 1 2 4 5 = 0; lay 1 3 3 2 6 = 1; years 1 = 5; strip 1 1 = 1; keep 1 = 2; lay 2 2 1 1 1 = 2
            years 3 = 7; strip 0 9 = 1
            again 1 = 2; about 0 5 = 8; about 0 3 = 4; about 1 5 = 0; about 1 3 = 2; about 2 0 = UNKNOWN; top 2 2 = NONE
            lay 3 3 1 0 1 = 2; about 2 5 = 1; again 1 = 2; again 1 = 2; count 3 = 1
            """);
        d.again("""
            lay 0 0 1 0 1 = 0; keep 1 = 1; lay 1 2 3 4 5 = 1; keep 0 = 2; again 1 = 1; lay 3 1 2 1 9 = 1; about 1 5 = 18
            again 0 = 2; about 1 0 = 1; about 1 1 = 2; about 1 2 = 3; about 1 3 = 4; about 1 4 = 5; about 1 5 = 15
            left 1 1 = 5; left 1 0 = 5; top 3 1 = NONE; top 1 2 = 1; top 0 0 = 0
            """);
        d.says("UNKNOWN;", """
            again -1 = UNKNOWN; again 2 = UNKNOWN; again MIN = UNKNOWN; again MAX = UNKNOWN; keep 0 = 0
            again 2 = UNKNOWN
            """);
        d.says("LATE: none were kept,", """
            again 0 = LATE; again 1 = LATE; lay 0 0 1 0 1 = 0; again 0 = LATE; count 2 = 1; keep 1 = 1; again 0 = LATE
            again 1 = 1
            keep 0 = 1; again 0 = 1; roof 4 4 = 16; again 0 = LATE; again 1 = LATE; roof 0 0 = BAD; keep 0 = 0
            again 1 = LATE
            """);
        d.says("or an OPENING lies where one of them does.", """
            lay 2 2 2 0 1 = 0; wear 2 2 2 = 1; lay 2 2 1 0 1 = 1; keep 0 = 2; strip 2 9 = 2; keep 1 = 2; opening 2 1 1 = 0
            again 0 = LATE; count 3 = 0; again 1 = 2; opening 2 1 0 = 1; opening 2 2 2 = 0; again 0 = LATE
            opening 2 2 0 = 2
            opening 2 0 1 = 0; opening 2 3 2 = 0; opening 1 1 1 = 0; opening 3 2 1 = 0; again 0 = 2; weight 2 = 3
            """);
        d.again("""
            roof 6 6 = 36; lay 5 5 1 0 1 = 0; lay 0 0 1 0 1 = 1; keep 1 = 2; strip 5 1 = 1; opening 5 5 1 = 0
            again 1 = LATE
            opening 5 5 0 = 1; strip 0 1 = 1; opening 0 0 2 = 0; again 1 = LATE; opening 0 0 0 = 2; again 1 = 2
            """);
    }

    private static void count(Sentences d) {
        d.part("Promise 39");
        d.says("0 COLUMNS, 1 ROWS, 2 BUNDLES that were laid, 3 those of which something is left, 4 OPENINGS, 5 bytes of"
                + " THE TEXT.", """
            roof 5 3 = 15; opening 4 2 1 = 0; opening 0 0 2 = 0; lay 1 2 3 0 1 = 0; lay 2 2 3 0 2 = 1; lay 3 2 3 0 3 = 2
            years 1 = 9; write 7 0 = 7; count 0 = 5; count 1 = 3; count 2 = 3; count 3 = 2; count 4 = 2; count 5 = 7
            roof 1 6 = 6; count 0 = 1; count 1 = 6; count 2 = 0; count 3 = 0; count 4 = 0; count 5 = 7
            """);
        d.again("tell " + SIXTY + "; lay 0 0 2 0 1 = 0 .. 39; count 2 = 40; count 3 = 40; count 5 = 60;"
                + " years 39 = 39; count 3 = 1; count 2 = 40");
        d.again("""
            roof 1 3 = 3; opening 0 0 1 = 0; opening 0 1 1 = 0; opening 0 2 2 = 0; count 4 = 3; opening 0 1 0 = 1
            count 4 = 2
            """);
        d.says("BAD.", "count -1 = BAD; count 6 = BAD; count MIN = BAD; count MAX = BAD; count 5 = 0");
    }
}
