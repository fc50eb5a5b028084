import java.io.IOException;
import java.lang.reflect.Field;
import java.lang.reflect.Modifier;
import java.nio.file.Files;
import java.nio.file.Path;
import java.util.HashMap;
import java.util.HashSet;
import java.util.List;
import java.util.Map;
import java.util.Set;
import java.util.regex.Matcher;
import java.util.regex.Pattern;

/** Rules of ../shared/LANGUAGE.md that can be seen in the text of the class. It runs at the project's root. */
public final class RulesTest {
    private static final List<String> NOT_WRITTEN = List.of(
        "throw", "throws", "try", "catch", "finally", "synchronized", "assert", "import", "package", "protected",
        "volatile", "transient", "native", "instanceof", "yield", "this", "super",
        "double", "float", "Object", "StringBuilder", "ArrayList", "List", "Thread", "Random", "Runtime");
    private static final List<String> LIBRARY = List.of(
        "Math.max", "Math.min");

    public static void main(String[] args) throws IOException {
        Check check = new Check("RulesTest");
        String source = Files.readString(Path.of("src/main/java/BurstSkins.java"));
        String code = source.replaceAll("(?s)/\\*.*?\\*/", "").replaceAll("//[^\n]*", "").replaceAll("\"[^\"]*\"", "\"\"");
        for (String word : NOT_WRITTEN) {
            check.isTrue("6: no '" + word + "'", !Pattern.compile("\\b" + word + "\\b").matcher(code).find());
        }
        check.isTrue("2: no lambda, no method reference", !code.contains("->") && !code.contains("::"));
        check.isTrue("4: signs 1 to 127", source.chars().allMatch(c -> c > 0 && c < 128));
        Matcher library = Pattern.compile("\\b(Math|Integer|Long|System|Arrays|String|Character|Object)\\.\\w+").matcher(code);
        while (library.find()) {
            check.isTrue("4: the library's " + library.group(), LIBRARY.contains(library.group()));
        }
        for (String line : code.split("\n")) {
            if (line.matches(".*\\bnew\\b.*")) {
                check.isTrue("12: made once, in a field: " + line.strip(), line.matches(" *(private )?final .* = .*new .*"));
            }
            if (line.matches(".*\\bstatic\\b.* = .*")) {
                check.isTrue("5: static and final: " + line.strip(), line.contains("static final "));
            }
        }
        check.isTrue("10: no texts joined by +", !Pattern.compile("\"\\s*\\+|\\+\\s*\"").matcher(code).find());
        check.isTrue("9: no loop without a condition", !Pattern.compile("for \\([^;]*; *;|while \\(true").matcher(code).find());
        lengths(check, source);
        counts(check);
        depths(check, code);
        check.end();
    }

    private static void counts(Check check) {
        Class<?>[] inside = BurstSkins.class.getDeclaredClasses();
        check.isTrue("11: some twelve classes at most", inside.length + 1 <= 12);
        fields(check, BurstSkins.class);
        for (Class<?> c : inside) {
            fields(check, c);
        }
    }

    private static void fields(Check check, Class<?> c) {
        int fields = 0;
        for (Field f : c.getDeclaredFields()) {
            boolean isStatic = Modifier.isStatic(f.getModifiers());
            fields += isStatic ? 0 : 1;
            check.isTrue("5: no static state: " + f, !isStatic || Modifier.isFinal(f.getModifiers()));
        }
        check.isTrue("11: some twenty fields at most in " + c, fields <= 20);
    }

    /** Which methods of the file a method calls, by their names (two of one name are as one), and how deep that goes. */
    private static void depths(Check check, String code) {
        Map<String, Set<String>> calls = new HashMap<>();
        Pattern head = Pattern.compile(" +(?:[\\w\\[\\]]+ )+(\\w+)\\([^;()]*\\) \\{");
        String name = "";
        for (String line : code.split("\n")) {
            Matcher m = head.matcher(line);
            if (m.matches() && !line.matches(" +(else )?(if|for|while|switch) .*")) {
                name = m.group(1);
                calls.putIfAbsent(name, new HashSet<>());
            } else if (!name.isEmpty()) {
                Matcher called = Pattern.compile("(Math\\.)?\\b(\\w+)\\(").matcher(line);
                while (called.find()) {
                    calls.get(name).add(called.group(1) == null ? called.group(2) : "");
                }
            }
        }
        check.isTrue("11: the methods are found", calls.containsKey("why") && calls.containsKey("strengthAt"));
        for (String from : calls.keySet()) {
            check.isTrue("8, 11: eight deep at most, none that comes back: " + from, depth(calls, from, 0) <= 8);
        }
    }

    private static int depth(Map<String, Set<String>> calls, String name, int above) {
        int deepest = 0;
        if (calls.containsKey(name) && above < 50) {
            for (String called : calls.get(name)) {
                deepest = Math.max(deepest, depth(calls, called, above + 1));
            }
            return deepest + 1;
        }
        return above < 50 ? 0 : 50;
    }

    /** A method's lines, from its head to the closing brace that stands as far in as the head. */
    private static void lengths(Check check, String source) {
        int since = 0;
        String indent = "";
        String[] lines = source.split("\n");
        for (int i = 0; i < lines.length; i++) {
            if (lines[i].matches(" +[\\w\\[\\] ]+\\([^;]*\\) \\{") && !lines[i].matches(" +(if|for|while|switch|\\}).*")) {
                since = i;
                indent = lines[i].replaceAll("\\S.*", "");
                check.isTrue("11: seven parameters at most: " + lines[i].strip(), lines[i].split(",").length <= 7);
            } else if (!indent.isEmpty() && lines[i].equals(indent + "}")) {
                check.isTrue("11: some sixty lines: " + lines[since].strip(), i - since < 60);
                indent = "";
            }
        }
    }
}
