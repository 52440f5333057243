import java.io.IOException;
import java.nio.file.Files;
import java.nio.file.Path;

/**
 * The document sentence by sentence: the boundary cases that each one names, one below and one above
 * each bound, what is empty, what is full, what is refused and which refusal is told first.
 */
public final class SentencesTest {
    public static void main(String[] args) throws IOException {
        Sentences document = new Sentences(Files.readString(Path.of(args[0], "..", "shared", "DOC.md")));
        FirstSentences.tell(document);
        RoofSentences.tell(document);
        LayingSentences.tell(document);
        WaterSentences.tell(document);
        YearsSentences.tell(document);
        AgesSentences.tell(document);
        FireSentences.tell(document);
        HistorySentences.tell(document);
        document.end();
    }
}
