import java.io.IOException;
import java.net.URL;
import java.net.URLClassLoader;
import java.nio.file.Files;
import java.nio.file.Path;
import java.util.ArrayList;
import java.util.LinkedHashMap;
import java.util.List;
import java.util.Map;
import java.util.regex.Matcher;
import java.util.regex.Pattern;
import javax.tools.JavaCompiler;
import javax.tools.ToolProvider;

/**
 * README.md says what is: its program is compiled and run, and its list of refusals is held against the class.
 * It runs at the project's root.
 */
public final class ReadmeTest {
    private static final Pattern PROGRAM = Pattern.compile("(?s)```java\n(.*?)```");
    private static final Pattern ANSWER = Pattern.compile("(?m)^int (\\w+) = .*; +// (-?\\d+)$");
    private static final Pattern ROW = Pattern.compile("(?m)^\\| `(\\w+)` \\((-?\\d+)\\) \\|[^|]*\\| ([^|]*) \\|$");
    private static final Pattern CALL = Pattern.compile("`(\\w+)`");

    private final Check check = new Check("ReadmeTest");

    public static void main(String[] args) throws IOException, ReflectiveOperationException {
        ReadmeTest t = new ReadmeTest();
        String readme = Files.readString(Path.of("README.md"));
        t.program(readme);
        t.refusals(readme);
        t.check.isTrue("the command that runs the tests", readme.contains("\n    .ci/run\n"));
        t.check.end();
    }

    private void program(String readme) throws IOException, ReflectiveOperationException {
        Matcher m = PROGRAM.matcher(readme);
        boolean found = m.find();
        check.isTrue("there is a program", found);
        if (!found) {
            return;
        }
        Map<String, Integer> due = new LinkedHashMap<>();
        Matcher answers = ANSWER.matcher(m.group(1));
        while (answers.find()) {
            due.put(answers.group(1), Integer.parseInt(answers.group(2)));
        }
        check.isTrue("the program tells answers", due.size() >= 10);
        int[] got = answersOf(m.group(1), due.keySet());
        int i = 0;
        for (Map.Entry<String, Integer> e : due.entrySet()) {
            check.due("the program's " + e.getKey(), got[i], e.getValue());
            i++;
        }
    }

    /** Compiles the program as it stands, with a line behind it that hands out what it was answered. */
    private int[] answersOf(String program, Iterable<String> names)
            throws IOException, ReflectiveOperationException {
        Path folder = Files.createTempDirectory("readme");
        try {
            Path file = folder.resolve("Yours.java");
            Files.writeString(file, "public final class Yours { public static int[] answers() {\n" + program
                + "return new int[] {" + String.join(", ", names) + "};\n} }\n");
            JavaCompiler compiler = ToolProvider.getSystemJavaCompiler();
            int code = compiler.run(null, null, null, "-d", folder.toString(), file.toString(),
                "src/main/java/BurstSkins.java");
            check.due("the program compiles", code, 0);
            try (URLClassLoader loader = new URLClassLoader(new URL[] {folder.toUri().toURL()}, null)) {
                return (int[]) loader.loadClass("Yours").getMethod("answers").invoke(null);
            }
        } finally {
            removeAll(folder);
        }
    }

    private static void removeAll(Path folder) throws IOException {
        try (var files = Files.list(folder)) {
            for (Path file : files.toList()) {
                Files.delete(file);
            }
        }
        Files.delete(folder);
    }

    /** The rows of the list, as "answer number: calls", are just those that the class answers. */
    private void refusals(String readme) {
        List<String> told = new ArrayList<>();
        Matcher row = ROW.matcher(readme);
        while (row.find()) {
            StringBuilder s = new StringBuilder(row.group(1) + " " + row.group(2) + ":");
            Matcher call = CALL.matcher(row.group(3));
            while (call.find()) {
                s.append(' ').append(call.group(1));
            }
            told.add(s.toString());
        }
        List<String> due = List.of("BAD " + BurstSkins.BAD + ": mark", "NO " + BurstSkins.NO + ": mark",
            "STATE " + BurstSkins.STATE + ": why", "STATE " + BurstSkins.STATE + ": back",
            "FULL " + BurstSkins.FULL + ": type", "FULL " + BurstSkins.FULL + ": test");
        check.isTrue("the list of refusals is " + due + ", and not " + told, told.equals(due));
        check.isTrue("NONE is told", readme.contains("`NONE` (" + BurstSkins.NONE + ")"));
        asTheListSays();
    }

    private void asTheListSays() {
        BurstSkins x = new BurstSkins();
        check.due("why, no cause", x.why(1, 0, 0, 0), BurstSkins.STATE);
        check.due("back, no image", x.back(0), BurstSkins.STATE);
        for (int i = 1; i <= 20; i++) {
            check.due("test", x.test(i, 100), i);
        }
        check.due("test, a 21st", x.test(1, 100), BurstSkins.FULL);
        for (int i = 1; i <= 37; i++) {
            check.due("type", x.type(0, 8), 8 * i);
        }
        check.due("type, 301 bytes", x.type(0, 5), BurstSkins.FULL);
        check.due("type, 300 bytes", x.type(0, 4), 300);
        check.due("sausage, a fault", x.sausage(), -10);
        check.due("sausage, the text stays", x.count(2), 300);
        check.due("mark, no such kind", x.mark(6, 0), BurstSkins.NO);
    }
}
