import java.io.IOException;
import java.lang.reflect.InvocationTargetException;
import java.nio.file.Files;
import java.nio.file.Path;
import java.util.Set;
import java.util.TreeSet;
import java.util.regex.Matcher;
import java.util.regex.Pattern;

/** README.md: its run of calls answers as it says, its tables name the document's calls and refusals. */
public final class ReadmeTest {
    private static final Due DUE = new Due("ReadmeTest");

    public static void main(String[] args) throws IOException, InvocationTargetException {
        String readme = Files.readString(Path.of(args[0], "README.md"));
        runOfCalls(readme);
        tables(readme, Files.readString(Path.of(args[0], "..", "shared", "DOC.md")));
        refusals(readme);
        DUE.holds("tells how the tests are run", readme.contains("\n.ci/run\n"));
        DUE.end();
    }

    private static void runOfCalls(String readme) throws InvocationTargetException {
        StrawCoats x = new StrawCoats();
        int calls = 0;
        Matcher lines = Pattern.compile("(?m)^x\\.(\\w+)\\((.*)\\); +// (-?\\w+)").matcher(readme);
        while (lines.find()) {
            String arguments = lines.group(2).replace("L", "").replace(",", "");
            String call = (lines.group(1) + " " + arguments).trim();
            DUE.is(call, Told.answer(x, call.split(" ")), Told.number(lines.group(3)));
            calls++;
        }
        DUE.holds("a run of calls", calls > 30);
    }

    private static void tables(String readme, String document) {
        int calls = 0;
        Matcher promises = Pattern.compile("(?m)^`(?:int|long) (\\w+)\\((.*?)\\)`: (.*)$").matcher(document);
        while (promises.find()) {
            String call = promises.group(1) + "(" + promises.group(2).replaceAll("(int|long|boolean) ", "") + ")";
            Matcher row = Pattern.compile("(?m)^\\| `" + Pattern.quote(call) + "` \\| .* \\| (.*)\\|$").matcher(readme);
            boolean found = row.find();
            DUE.holds(call + " has a row", found);
            if (found) {
                DUE.holds(call + " is refused as in its row", refusalsIn(row.group(1)).equals(refusalsIn(promises.group(3))));
            }
            calls++;
        }
        DUE.is("calls of the document", calls, 38);
    }

    private static Set<String> refusalsIn(String text) {
        Set<String> all = new TreeSet<>();
        Matcher names = Pattern.compile("\\b(UNKNOWN|BAD|LATE|FULL)\\b").matcher(text);
        while (names.find()) {
            all.add(names.group());
        }
        return all;
    }

    private static void refusals(String readme) {
        for (String name : new String[] {"UNKNOWN", "BAD", "LATE", "FULL", "NONE"}) {
            DUE.holds(name, readme.contains("| `" + name + "` | " + Told.number(name) + " | "));
        }
    }
}
