import java.io.IOException;
import java.lang.reflect.Method;
import java.net.URL;
import java.net.URLClassLoader;
import java.nio.file.Files;
import java.nio.file.Path;
import java.util.ArrayList;
import java.util.Arrays;
import java.util.Comparator;
import java.util.HashSet;
import java.util.List;
import java.util.Set;
import java.util.regex.Matcher;
import java.util.regex.Pattern;
import java.util.stream.Stream;
import javax.tools.ToolProvider;

/** What README.md shows is so: its examples are compiled and run, its tables held against the class. */
public final class ReadmeTest {
    private static final Pattern ANSWERED = Pattern.compile("(?m)^(x\\.(\\w+)\\(.*\\));\\s+// (-?\\d+|[A-Z]+): .*$");

    public static void main(String[] args) throws Exception {
        String readme = Files.readString(Path.of("README.md"));
        examples(readme);
        constants(readme);
        lines(readme);
        faults(readme);
        calls(readme);
        tests(readme);
        Due.end();
    }

    // ---- examples

    private static void examples(String readme) throws Exception {
        Matcher m = Pattern.compile("(?s)```java\n(.*?)```").matcher(readme);
        int found = 0;
        while (m.find()) {
            found++;
            allAnswersAreShown(m.group(1));
            run(m.group(1));
        }
        Due.due("README has an example", found > 0 ? 1 : 0, 1);
    }

    private static void allAnswersAreShown(String example) {
        Set<String> asked = new HashSet<>();
        int shown = 0;
        for (Matcher m = ANSWERED.matcher(example); m.find();) {
            shown++;
            asked.add(m.group(2));
        }
        long calls = example.lines().filter(line -> line.startsWith("x.")).count();
        Due.due("each call of the example has its answer", shown, calls);
        Due.due("the example asks much", asked.size() >= 20 ? 1 : 0, 1);
    }

    /** The example as it stands there, each shown answer being due. */
    private static void run(String example) throws Exception {
        StringBuilder code = new StringBuilder("public final class Shown {\n"
                + "public static void run(java.util.List<String> calls, java.util.List<Integer> answers) {\n");
        Matcher m = ANSWERED.matcher(example);
        while (m.find()) {
            String answer = (Character.isLetter(m.group(3).charAt(0)) ? "InnChanged." : "") + m.group(3);
            m.appendReplacement(code, Matcher.quoteReplacement("calls.add(\"" + m.group(1) + "\"); answers.add("
                    + m.group(1) + "); answers.add(" + answer + ");"));
        }
        m.appendTail(code);
        code.append("}\n}\n");
        List<String> calls = new ArrayList<>();
        List<Integer> answers = new ArrayList<>();
        compiled(code.toString(), calls, answers);
        for (int i = 0; i < calls.size() && 2 * i + 1 < answers.size(); i++) {
            Due.due("README " + calls.get(i), answers.get(2 * i), answers.get(2 * i + 1));
        }
    }

    private static void compiled(String code, List<String> calls, List<Integer> answers) throws Exception {
        Path folder = Files.createTempDirectory("readme");
        try {
            Path file = folder.resolve("Shown.java");
            Files.writeString(file, code);
            int failed = ToolProvider.getSystemJavaCompiler().run(null, null, null, "-cp",
                    System.getProperty("java.class.path"), "-d", folder.toString(), file.toString());
            Due.due("README's example compiles", failed, 0);
            if (failed == 0) {
                try (URLClassLoader loader = new URLClassLoader(new URL[] {folder.toUri().toURL()})) {
                    loader.loadClass("Shown").getMethod("run", List.class, List.class).invoke(null, calls, answers);
                }
            }
        } finally {
            remove(folder);
        }
    }

    private static void remove(Path folder) throws IOException {
        try (Stream<Path> all = Files.walk(folder)) {
            for (Path path : all.sorted(Comparator.reverseOrder()).toList()) {
                Files.delete(path);
            }
        }
    }

    // ---- tables

    /** The cells of all rows of the table with such a head. */
    private static List<String[]> table(String readme, String head) {
        List<String[]> rows = new ArrayList<>();
        boolean inside = false;
        for (String line : readme.split("\n")) {
            if (line.startsWith("| " + head + " |")) {
                inside = true;
            } else if (!line.startsWith("|")) {
                inside = false;
            } else if (inside && !line.startsWith("|---")) {
                String[] cells = line.substring(2, line.length() - 2).split(" \\| ");
                rows.add(cells);
            }
        }
        Due.due("README has a table of '" + head + "'", rows.isEmpty() ? 0 : 1, 1);
        return rows;
    }

    private static void constants(String readme) throws Exception {
        List<String[]> rows = table(readme, "constant");
        Due.due("README's constants", rows.size(), 5);
        for (String[] row : rows) {
            int value = InnChanged.class.getField(row[0].replace("`", "")).getInt(null);
            Due.due("README " + row[0], value, Integer.parseInt(row[1]));
        }
    }

    /** Each line shown, its letters put as numbers, stands behind one host and one thing. */
    private static void lines(String readme) {
        Set<String> words = new HashSet<>();
        for (String[] row : table(readme, "line")) {
            for (Matcher m = Pattern.compile("`([a-z]+( [A-Z])*)`").matcher(row[0]); m.find();) {
                words.add(m.group(1).split(" ")[0]);
                String text = "host;dull 0 0;" + m.group(1).replaceAll("[A-Z]", "0");
                InnChanged x = new InnChanged();
                Due.write(x, text);
                Due.due("README's line '" + text + "'", x.fault(), InnChanged.NONE);
            }
        }
        Set<String> all = Set.of("inn", "guest", "watcher", "lender", "host", "dull", "true", "fading", "moody",
                "night", "power");
        Due.due("README shows all lines, and has " + words, words.equals(all) ? 1 : 0, 1);
    }

    private static void faults(String readme) {
        for (String[] row : table(readme, "text")) {
            InnChanged x = new InnChanged();
            Due.write(x, row[0].replace("`", ""));
            int want = row[1].equals("NONE") ? InnChanged.NONE : Integer.parseInt(row[1]);
            Due.due("README's fault of " + row[0], x.fault(), want);
        }
    }

    /** As the document writes them, with the names of their numbers. */
    private static void calls(String readme) throws IOException {
        List<String> told = new ArrayList<>();
        String doc = Files.readString(Path.of("../shared/DOC.md"));
        for (Matcher m = Pattern.compile("(?m)^    public int (\\w+\\([^)]*\\));$").matcher(doc); m.find();) {
            told.add("`" + m.group(1).replace("int ", "") + "`");
        }
        List<String> shown = table(readme, "call").stream().map(row -> row[0]).toList();
        Due.due("README shows all calls in the document's order: " + shown, shown.equals(told) ? 1 : 0, 1);
        long has = Arrays.stream(InnChanged.class.getDeclaredMethods()).map(Method::getModifiers)
                .filter(java.lang.reflect.Modifier::isPublic).count();
        Due.due("README shows all calls of the class", shown.size(), has);
    }

    private static void tests(String readme) throws IOException {
        try (Stream<Path> files = Files.list(Path.of("src/test/java"))) {
            for (Path file : files.toList()) {
                String name = file.getFileName().toString().replace(".java", "");
                boolean named = readme.contains("`" + name + "`");
                Due.due("README names " + name, !name.endsWith("Test") || named ? 1 : 0, 1);
            }
        }
    }
}
