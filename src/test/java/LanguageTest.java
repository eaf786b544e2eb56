import java.io.IOException;
import java.lang.reflect.Field;
import java.lang.reflect.Modifier;
import java.nio.file.Files;
import java.nio.file.Path;
import java.util.ArrayDeque;
import java.util.ArrayList;
import java.util.Deque;
import java.util.HashMap;
import java.util.HashSet;
import java.util.List;
import java.util.Map;
import java.util.Set;
import java.util.regex.Matcher;
import java.util.regex.Pattern;

/** Rules of LANGUAGE.md that can be seen in the source's letters, or in the compiled classes' fields. */
public final class LanguageTest {
    private static final int MOST_LINES = 60;
    private static final int MOST_PARAMETERS = 7;
    private static final int MOST_DEEP = 8;
    private static final int MOST_FIELDS = 20;
    private static final Set<Class<?>> CONSTANTS = Set.of(int.class, long.class, boolean.class, char.class, String.class,
            int[].class, long[].class, char[].class, byte[].class);
    private static final Pattern METHOD = Pattern.compile(
            "^ +(?:(?:public|private|static|final) )*[A-Za-z\\[\\]]+ ([a-zA-Z]+)\\(([^)]*)\\) \\{$");
    private static final Pattern CALL = Pattern.compile("\\b(?!if|for|while|switch|return)([a-z][A-Za-z]*)\\(");

    public static void main(String[] args) throws IOException {
        Path source = Path.of(System.getProperty("seafire.source", "src/main/java/SeaFire.java"));
        String text = Files.readString(source);
        String bare = text.replaceAll("(?s)/\\*.*?\\*/", "").replaceAll("//[^\n]*", "").replaceAll("\"[^\"\n]*\"", "\"\"");
        noForbiddenWords(bare);
        classesAndMethods(bare);
        callsGoEightDeep(bare);
        fieldsKeepTheRules(SeaFire.class);
        for (Class<?> inside : SeaFire.class.getDeclaredClasses()) {
            fieldsKeepTheRules(inside);
        }
        Bench.end();
    }

    private static void noForbiddenWords(String bare) {
        String[] words = {"throw", "throws", "try", "catch", "synchronized", "assert", "import", "package", "hashCode",
            "toString", "Thread", "Random", "System.(?!arraycopy)", "->", "::", "\\w+Exact", "protected", "\"\" *\\+"};
        for (String word : words) {
            String pattern = Character.isLetter(word.charAt(0)) ? "\\b" + word + (word.endsWith(")") ? "" : "\\b") : word;
            Bench.due("'" + word + "' in the source", Pattern.compile(pattern).matcher(bare).find(), false);
        }
        for (int i = 0; i < bare.length(); i++) {
            if (bare.charAt(i) > 126) {
                Bench.due("a sign beyond 126 at " + i, bare.charAt(i), 0);
            }
        }
        // Made in constructors and kept: no call makes an object or an array.
        Matcher made = Pattern.compile("^.*\\bnew .*$", Pattern.MULTILINE).matcher(bare);
        while (made.find()) {
            String line = made.group().trim();
            boolean kept = line.startsWith("private final") || line.startsWith("final")
                    || line.matches("(trays|marks|partRow|handRow|springRow)\\[\\w\\] = new \\w+\\(\\);");
            Bench.due("made and kept: " + line, kept, true);
        }
    }

    private static Map<String, List<String>> bodies(String bare) {
        Map<String, List<String>> bodies = new HashMap<>();
        List<String> body = null;
        String indent = "";
        for (String line : bare.split("\n")) {
            Matcher m = METHOD.matcher(line);
            if (body == null && m.matches()) {
                String parameters = m.group(2);
                int count = parameters.isEmpty() ? 0 : parameters.split(",").length;
                Bench.due(m.group(1) + " has too many parameters", count > MOST_PARAMETERS, false);
                body = bodies.computeIfAbsent(m.group(1), k -> new ArrayList<>());
                body.add("");
                indent = line.substring(0, line.length() - line.stripLeading().length());
            } else if (body != null && line.equals(indent + "}")) {
                long lines = body.size();
                Bench.due("a method of " + lines + " lines", lines > MOST_LINES, false);
                body = null;
            } else if (body != null) {
                body.add(line);
            }
        }
        return bodies;
    }

    private static void classesAndMethods(String bare) {
        Matcher classes = Pattern.compile("\\b(class|record|enum|interface) [A-Z]").matcher(bare);
        int count = 0;
        while (classes.find()) {
            count++;
        }
        Bench.due("more than twelve classes: " + count, count > 12, false);
        Bench.due("methods are seen", bodies(bare).size() > 100, true);
    }

    /** Rules 3, 5 and 11: no static state, one dimension but for numbers, some twenty fields a class. */
    private static void fieldsKeepTheRules(Class<?> c) {
        int fields = 0;
        for (Field f : c.getDeclaredFields()) {
            boolean constant = Modifier.isStatic(f.getModifiers());
            fields += constant ? 0 : 1;
            Bench.due(f + " is a constant", !constant || Modifier.isFinal(f.getModifiers()) && CONSTANTS.contains(f.getType()), true);
            Class<?> element = f.getType();
            int dimensions = 0;
            while (element.isArray()) {
                element = element.getComponentType();
                dimensions++;
            }
            Bench.due(f + " has too many dimensions", dimensions > (element.isPrimitive() ? 2 : 1), false);
            boolean own = element.getNestHost() == SeaFire.class;
            Bench.due(f + " is of a type of the language", element.isPrimitive() || own || element == String.class, true);
        }
        Bench.due(c + " has too many fields: " + fields, fields > MOST_FIELDS, false);
    }

    /** By names alone, the library's calls too: a name that two classes share counts with both its bodies. */
    private static void callsGoEightDeep(String bare) {
        Map<String, Set<String>> calls = new HashMap<>();
        Map<String, List<String>> bodies = bodies(bare);
        bodies.forEach((name, lines) -> {
            Set<String> called = new HashSet<>();
            for (String line : lines) {
                Matcher m = CALL.matcher(line);
                while (m.find()) {
                    called.add(m.group(1).equals(name) ? "its namesake" : m.group(1));
                }
            }
            calls.put(name, called);
        });
        for (String name : calls.keySet()) {
            int deep = deep(name, calls, new ArrayDeque<>());
            Bench.due(name + " goes " + deep + " deep", deep > MOST_DEEP, false);
        }
    }

    private static int deep(String name, Map<String, Set<String>> calls, Deque<String> open) {
        if (open.contains(name)) {
            Bench.due("recursion " + open, 1, 0);
            return 99;
        }
        open.push(name);
        int most = 0;
        for (String called : calls.getOrDefault(name, Set.of())) {
            most = Math.max(most, deep(called, calls, open));
        }
        open.pop();
        return most + 1;
    }
}
