import java.io.IOException;
import java.nio.file.Files;
import java.nio.file.Path;
import java.util.List;
import java.util.regex.Matcher;
import java.util.regex.Pattern;

/** Rules of ../shared/LANGUAGE.md that can be seen in the text of the class. It runs at the project's root. */
public final class RulesTest {
    private static final List<String> NOT_WRITTEN = List.of(
        "throw", "throws", "try", "catch", "finally", "synchronized", "assert", "import", "package", "protected",
        "volatile", "transient", "native", "instanceof", "yield", "this", "super");
    private static final List<String> LIBRARY = List.of(
        "Math.max", "Math.min");

    public static void main(String[] args) throws IOException {
        Check check = new Check("RulesTest");
        String source = Files.readString(Path.of("src/main/java/BurstSkins.java"));
        String code = source.replaceAll("(?s)/\\*.*?\\*/", "").replaceAll("//[^\n]*", "").replaceAll("\"[^\"]*\"", "\"\"");
        for (String word : NOT_WRITTEN) {
            check.isTrue("6: no '" + word + "'", !Pattern.compile("\\b" + word + "\\b").matcher(code).find());
        }
        check.isTrue("2: no lambda, no method reference", !code.contains("->") && !code.contains("::"));
        check.isTrue("4: signs 1 to 127", source.chars().allMatch(c -> c > 0 && c < 128));
        Matcher library = Pattern.compile("\\b(Math|Integer|Long|System|Arrays|String|Character|Object)\\.\\w+").matcher(code);
        while (library.find()) {
            check.isTrue("4: the library's " + library.group(), LIBRARY.contains(library.group()));
        }
        for (String line : code.split("\n")) {
            if (line.matches(".*\\bnew\\b.*")) {
                check.isTrue("12: made once, in a field: " + line.strip(), line.matches(" *(private )?final .* = .*new .*"));
            }
            if (line.matches(".*\\bstatic\\b.* = .*")) {
                check.isTrue("5: static and final: " + line.strip(), line.contains("static final "));
            }
        }
        lengths(check, source);
        check.end();
    }

    /** A method's lines, from its head to the closing brace that stands as far in as the head. */
    private static void lengths(Check check, String source) {
        int since = 0;
        String indent = "";
        String[] lines = source.split("\n");
        for (int i = 0; i < lines.length; i++) {
            if (lines[i].matches(" +[\\w\\[\\] ]+\\([^;]*\\) \\{") && !lines[i].matches(" +(if|for|while|switch|\\}).*")) {
                since = i;
                indent = lines[i].replaceAll("\\S.*", "");
                check.isTrue("11: seven parameters at most: " + lines[i].strip(), lines[i].split(",").length <= 7);
            } else if (!indent.isEmpty() && lines[i].equals(indent + "}")) {
                check.isTrue("11: some sixty lines: " + lines[since].strip(), i - since < 60);
                indent = "";
            }
        }
    }
}
