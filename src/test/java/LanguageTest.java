import java.io.IOException;
import java.lang.reflect.Constructor;
import java.lang.reflect.Field;
import java.lang.reflect.Method;
import java.lang.reflect.Modifier;
import java.nio.file.Files;
import java.nio.file.Path;
import java.util.Arrays;
import java.util.Set;
import java.util.TreeSet;
import java.util.regex.Matcher;
import java.util.regex.Pattern;

/** The face of the class, and those rules of LANGUAGE.md that its text and its members show. */
public final class LanguageTest {
    private static final Due DUE = new Due("LanguageTest");

    public static void main(String[] args) throws IOException {
        face();
        documentFace(Files.readString(Path.of(args[0], "..", "shared", "DOC.md")));
        members();
        source(Files.readString(Path.of(args[0], "src", "main", "java", "StrawCoats.java")));
        DUE.end();
    }

    private static void face() {
        Set<String> due = new TreeSet<>(Calls.names());
        DUE.is("calls of the document", due.size(), 38);
        Set<String> got = new TreeSet<>();
        for (Method m : StrawCoats.class.getDeclaredMethods()) {
            boolean isPublic = Modifier.isPublic(m.getModifiers());
            DUE.holds(m + " is public or private", isPublic || Modifier.isPrivate(m.getModifiers()));
            DUE.holds(m + " is of the face or no name of it", due.contains(m.getName()) == isPublic);
            DUE.holds(m + " answers as due", !isPublic
                    || m.getReturnType() == (m.getName().equals("ways") ? long.class : int.class));
            if (isPublic) {
                got.add(m.getName());
            }
        }
        DUE.holds("the whole face: " + got, got.equals(due));
        Set<String> constants = new TreeSet<>(Arrays.asList("UNKNOWN", "BAD", "LATE", "FULL", "NONE"));
        for (Field f : StrawCoats.class.getDeclaredFields()) {
            DUE.holds(f.getName() + " is private or a constant of the face",
                    Modifier.isPrivate(f.getModifiers()) || constants.remove(f.getName()));
        }
        DUE.holds("constants", constants.isEmpty());
        DUE.holds("final", Modifier.isFinal(StrawCoats.class.getModifiers()));
        DUE.is("constructors", StrawCoats.class.getConstructors().length, 1);
    }

    /** Each line of the document's face is a member of the class, and no public member stands beside them. */
    private static void documentFace(String document) {
        Set<String> due = new TreeSet<>();
        Matcher lines = Pattern.compile("(?m)^    public (?!static)(.*)\\((.*)\\);$").matcher(document);
        while (lines.find()) {
            due.add(lines.group(1) + "(" + lines.group(2).replaceAll(" \\w+(?=,|$)", "").replace(" ", "") + ")");
        }
        Set<String> got = new TreeSet<>();
        for (Method m : StrawCoats.class.getDeclaredMethods()) {
            if (Modifier.isPublic(m.getModifiers())) {
                got.add(m.getReturnType() + " " + m.getName() + typesOf(m.getParameterTypes()));
            }
        }
        for (Constructor<?> c : StrawCoats.class.getConstructors()) {
            got.add(c.getName() + typesOf(c.getParameterTypes()));
        }
        DUE.is("lines of the document's face", due.size(), 1 + 38);
        DUE.holds("the document's face " + due + " is " + got, due.equals(got));
    }

    private static String typesOf(Class<?>[] types) {
        StringBuilder all = new StringBuilder();
        for (Class<?> type : types) {
            all.append(all.length() == 0 ? "" : ",").append(type);
        }
        return "(" + all + ")";
    }

    private static void members() {
        Class<?>[] inside = StrawCoats.class.getDeclaredClasses();
        DUE.holds("at most twelve classes", inside.length < 12);
        for (Class<?> c : inside) {
            DUE.holds(c + " is static", Modifier.isStatic(c.getModifiers()) && !Modifier.isPublic(c.getModifiers()));
            int fields = 0;
            for (Field f : c.getDeclaredFields()) {
                fields += Modifier.isStatic(f.getModifiers()) ? 0 : 1;
                DUE.holds(f + " is final if static", !Modifier.isStatic(f.getModifiers()) || Modifier.isFinal(f.getModifiers()));
            }
            DUE.holds(c + " has few fields", fields <= 20);
            for (Method m : c.getDeclaredMethods()) {
                DUE.holds(m + " has few parameters", m.getParameterCount() <= 7);
                DUE.holds(m + " bears no name of the face", !Calls.names().contains(m.getName()));
            }
        }
    }

    private static void source(String text) {
        String code = text.replaceAll("(?s)/\\*.*?\\*/", "").replaceAll("//[^\n]*", "");
        String[] ruledOut = {"\\bthrows?\\b", "\\btry\\b", "\\bcatch\\b", "\\bsynchronized\\b", "\\bassert\\b", "->", "::",
            "\\bpackage\\b", "\\bprotected\\b", "\\bvolatile\\b", "\\bdo\\b", "\\bwhile\\b", "\\binstanceof\\b",
            "\\b[A-Za-z]+Exact\\b", "\\bSystem\\.(?!arraycopy)", "\\bArrays\\.(?!fill)", "\\bLong\\.(?!bitCount)",
            "\\bMath\\.(?!min|max)", "\\bInteger\\b", "\"", "\\bvar\\b", "\\bObject\\b", "\\breflect\\b"};
        for (String pattern : ruledOut) {
            Matcher m = Pattern.compile(pattern).matcher(code);
            DUE.holds("no " + pattern, !m.find());
        }
        Matcher imports = Pattern.compile("(?m)^import .*$").matcher(code);
        while (imports.find()) {
            DUE.holds(imports.group(), imports.group().equals("import java.util.Arrays;"));
        }
        int begun = 0;
        String[] lines = text.split("\n");
        for (int i = 0; i < lines.length; i++) {
            DUE.holds("line " + (i + 1) + " is of plain signs", lines[i].matches("[ -~]*"));
            if (lines[i].matches("( {4}){1,2}[a-zA-Z].*\\{")) {
                begun = i;
            }
            if (lines[i].matches("( {4}){1,2}\\}") && !lines[begun].contains(" class ")) {
                DUE.holds("short: " + lines[begun].trim(), i - begun < 60);
            }
        }
    }
}
