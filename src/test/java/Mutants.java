import java.io.IOException;
import java.io.StringWriter;
import java.nio.file.Files;
import java.nio.file.Path;
import java.util.ArrayList;
import java.util.LinkedHashMap;
import java.util.List;
import java.util.Map;
import java.util.concurrent.ExecutorService;
import java.util.concurrent.Executors;
import java.util.concurrent.Future;
import java.util.concurrent.TimeUnit;
import java.util.regex.Matcher;
import java.util.regex.Pattern;
import javax.tools.JavaCompiler;
import javax.tools.ToolProvider;

/**
 * Breaks the class in one place after another and tells which breaks a test does not notice; run by
 * hand. Some can not be noticed: they only make the class slower, or guard what never comes.
 */
public final class Mutants {
    private static final int SECONDS = 30;
    private static final Pattern NUMBER = Pattern.compile("(?<![A-Za-z0-9_])\\d+(?![A-Za-z0-9_])");
    private static final Pattern WORD = Pattern.compile("(?<= )([<>]=?|[=!]=|&&|\\|\\||[-+&|]|<<|>>>)(?= )|(?<=\\()!");
    private static final Pattern ANSWER = Pattern.compile("(?<=return )(UNKNOWN|BAD|LATE|FULL|NONE|true|false)(?=;)");
    private static final Map<String, String> OTHER = Map.ofEntries(Map.entry("<", "<="), Map.entry("<=", "<"),
            Map.entry(">", ">="), Map.entry(">=", ">"), Map.entry("==", "!="), Map.entry("!=", "=="),
            Map.entry("&&", "||"), Map.entry("||", "&&"), Map.entry("+", "-"), Map.entry("-", "+"), Map.entry("&", "|"),
            Map.entry("|", "&"), Map.entry("<<", ">>>"), Map.entry(">>>", "<<"), Map.entry("!", ""),
            Map.entry("UNKNOWN", "BAD"), Map.entry("BAD", "LATE"), Map.entry("LATE", "FULL"), Map.entry("FULL", "LATE"),
            Map.entry("NONE", "UNKNOWN"), Map.entry("true", "false"), Map.entry("false", "true"));

    private final Path root;
    private final String test;
    private final String[] lines;
    private final Map<String, String> broken = new LinkedHashMap<>();

    private Mutants(Path root, String test) throws IOException {
        this.root = root;
        this.test = test;
        lines = Files.readString(root.resolve("src/main/java/StrawCoats.java")).split("\n");
    }

    public static void main(String[] args) throws Exception {
        Mutants mutants = new Mutants(Path.of(args[0]), args[1]);
        for (int i = 0; i < mutants.lines.length; i++) {
            mutants.breakLine(i);
        }
        mutants.run();
    }

    private void breakLine(int i) {
        String line = lines[i];
        if (line.matches("\\s*(//|/?\\*|import|public (int|long) |private static final class).*")) {
            return;
        }
        for (Pattern pattern : List.of(WORD, ANSWER)) {
            Matcher m = pattern.matcher(line);
            while (m.find()) {
                breakAt(i, m, OTHER.get(m.group()));
            }
        }
        Matcher number = NUMBER.matcher(line);
        while (number.find()) {
            breakAt(i, number, "" + (Long.parseLong(number.group()) + 1));
            breakAt(i, number, "" + (Long.parseLong(number.group()) - 1));
        }
        if (line.matches("\\s+[a-zA-Z][a-zA-Z.\\[\\]]*( [-+|&]?= |\\(|\\+\\+|--| -= | \\+= ).*;") && !line.contains("return")) {
            put(i, line.replaceAll("\\S.*", ";"));
        }
    }

    private void breakAt(int i, Matcher m, String other) {
        put(i, lines[i].substring(0, m.start()) + other + lines[i].substring(m.end()));
    }

    private void put(int i, String line) {
        String[] all = lines.clone();
        all[i] = line;
        broken.put((i + 1) + ": " + lines[i].trim() + "\n      -> " + line.trim(), String.join("\n", all));
    }

    private void run() throws Exception {
        ExecutorService pool = Executors.newFixedThreadPool(Runtime.getRuntime().availableProcessors());
        Map<String, Future<String>> ends = new LinkedHashMap<>();
        int number = 0;
        for (Map.Entry<String, String> one : broken.entrySet()) {
            Path place = root.resolve("build/mutants/" + number++);
            ends.put(one.getKey(), pool.submit(() -> end(place, one.getValue())));
        }
        pool.shutdown();
        Map<String, Integer> counts = new LinkedHashMap<>();
        for (Map.Entry<String, Future<String>> one : ends.entrySet()) {
            counts.merge(one.getValue().get(), 1, Integer::sum);
            if (one.getValue().get().equals("not noticed")) {
                System.out.println(one.getKey());
            }
        }
        System.out.println(counts);
    }

    private String end(Path place, String text) throws IOException, InterruptedException {
        Files.createDirectories(place);
        Path source = place.resolve("StrawCoats.java");
        Files.writeString(source, text);
        JavaCompiler compiler = ToolProvider.getSystemJavaCompiler();
        boolean compiled = compiler.getTask(new StringWriter(), null, d -> { }, List.of("-d", place.toString()), null,
                compiler.getStandardFileManager(null, null, null).getJavaFileObjects(source)).call();
        if (!compiled) {
            return "not compiled";
        }
        List<String> command = new ArrayList<>(List.of("java", "-XX:TieredStopAtLevel=1", "-cp",
                place + ":" + root.resolve("build/own"), test, root.toString()));
        Process process = new ProcessBuilder(command).redirectErrorStream(true)
                .redirectOutput(place.resolve("told").toFile()).start();
        if (!process.waitFor(SECONDS, TimeUnit.SECONDS)) {
            process.destroyForcibly();
            return "without end";
        }
        return process.exitValue() == 0 ? "not noticed" : "noticed";
    }
}
