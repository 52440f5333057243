import java.lang.reflect.InvocationTargetException;
import java.util.BitSet;
import java.util.LinkedHashMap;
import java.util.Map;
import java.util.regex.Matcher;
import java.util.regex.Pattern;

/**
 * Sentences of the document, each with runs of calls on a new object that would answer otherwise if
 * the sentence were broken. A run is told as "lay 0 1 2 0 3 = 0; top 0 1 = 0; ..": a call, its
 * arguments, the answer that is due; "= 0 .. 39" makes the call forty times, and "tell B00101" is a
 * wipe and as many writes as the text needs.
 */
final class Sentences {
    private final Due due = new Due("SentencesTest");
    private final Map<String, String> texts = new LinkedHashMap<>();
    private final Map<String, BitSet> quoted = new LinkedHashMap<>();
    private String part = "";
    private String sentence = "";

    Sentences(String document) {
        texts.put("What it is", plain(between(document, "## What it is\n", "## The public face\n")));
        String terms = between(document, "## Terms\n", "\nAhead of the calls `roof`");
        String[] parts = terms.split("======== \\d");
        for (int k = 0; k < parts.length; k++) {
            texts.put("Terms " + (k + 1), plain(parts[k]));
        }
        Matcher promises = Pattern.compile("## (Promise \\d+): .*\n\n`.*?`: (.*)\n").matcher(document);
        while (promises.find()) {
            texts.put(promises.group(1), plain(promises.group(2)));
        }
        for (String name : texts.keySet()) {
            quoted.put(name, new BitSet());
        }
        due.is("parts of the document: what it is, terms, promises", texts.size(), 1 + 6 + 39);
    }

    private static String between(String text, String from, String to) {
        return text.substring(text.indexOf(from) + from.length(), text.indexOf(to));
    }

    private static String plain(String text) {
        return text.replace("```text", " ").replace("```", " ").replaceAll("======== \\d", " ").replaceAll("\\s+", " ").trim();
    }

    /** The part of the document that the next sentences stand in. */
    void part(String name) {
        part = name;
        due.holds(name + " is a part of the document", texts.containsKey(name));
    }

    /** A sentence, and a run of calls by which it is tested. */
    void says(String words, String calls) {
        sentence = words;
        int at = texts.getOrDefault(part, "").indexOf(words);
        due.holds(part + " says: " + words, at >= 0 && !words.isEmpty());
        if (at >= 0) {
            quoted.get(part).set(at, at + words.length());
        }
        again(calls);
    }

    /** The same sentence on another new object. */
    void again(String calls) {
        StrawCoats x = new StrawCoats();
        for (String call : calls.split("[;\n]")) {
            if (!call.isBlank()) {
                make(x, call.trim());
            }
        }
    }

    private void make(StrawCoats x, String call) {
        if (call.startsWith("tell ")) {
            tell(x, call.substring("tell ".length()));
            return;
        }
        String[] sides = call.split(" = ");
        String[] bounds = sides[1].split(" \\.\\. ");
        long last = Told.number(bounds[bounds.length - 1]);
        for (long want = Told.number(bounds[0]); want <= last; want++) {
            due.is(part + ", " + sentence + ": " + sides[0], answer(x, sides[0].split(" ")), want);
        }
    }

    private void tell(StrawCoats x, String text) {
        x.wipe();
        for (int at = 0; at < text.length(); at += 8) {
            int n = Math.min(8, text.length() - at);
            long v = 0;
            for (int i = 0; i < n; i++) {
                v = v << 8 | text.charAt(at + i);
            }
            due.is(part + ", " + sentence + ": write of " + text, x.write(n, v), at + n);
        }
    }

    private long answer(StrawCoats x, String[] words) {
        try {
            return Told.answer(x, words);
        } catch (InvocationTargetException e) {
            due.holds(part + ", " + sentence + ": " + String.join(" ", words) + " threw " + e.getCause(), false);
            return Long.MIN_VALUE;
        }
    }

    /** Ends the test; a word of these parts that no sentence quotes is a fault as well. */
    void end() {
        for (String name : texts.keySet()) {
            String text = texts.get(name);
            StringBuilder rest = new StringBuilder();
            for (int i = 0; i < text.length(); i++) {
                rest.append(quoted.get(name).get(i) ? ' ' : text.charAt(i));
            }
            boolean all = !rest.toString().matches("(?s).*[A-Za-z0-9].*");
            due.holds(name + " is tested whole, but for: " + rest.toString().trim().replaceAll(" +", " "), all);
        }
        due.end();
    }
}
