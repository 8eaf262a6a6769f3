import java.io.IOException;
import java.net.URL;
import java.net.URLClassLoader;
import java.nio.file.Files;
import java.nio.file.Path;
import java.util.ArrayList;
import java.util.LinkedHashMap;
import java.util.List;
import java.util.Map;
import java.util.Set;
import java.util.TreeSet;
import java.util.regex.Matcher;
import java.util.regex.Pattern;
import java.util.stream.Stream;
import javax.tools.ToolProvider;

/** README.md is true: its example answers what it says, its calls, findings and tests are those that there are. */
public final class ReadmeTest {
    private static final String FINDING = "BEYOND|FULL|KIND|NONE|STATE|MISSING|SIZE";

    private static int wrong = 0;

    private static void due(String what, Object got, Object want) {
        if (!got.equals(want)) {
            wrong++;
            System.out.println(what + " is told as " + got + ", due is " + want);
        }
    }

    public static void main(String[] args) throws Exception {
        Path root = Path.of(System.getProperty("source")).resolve("../../../../").normalize();
        String readme = Files.readString(root.resolve("README.md"));
        String doc = Files.readString(Path.of(System.getProperty("doc")));
        Map<String, List<String>> calls = callsOfReadme(readme);
        Map<String, List<String>> promised = callsOfDocument(doc);
        due("how many calls there are", promised.size(), 43);
        due("the order of calls", new ArrayList<>(calls.keySet()), new ArrayList<>(promised.keySet()));
        for (String call : promised.keySet()) due("findings of " + call, calls.getOrDefault(call, List.of()), promised.get(call));
        due("numbers of findings", findingsOfReadme(readme), findingsOfDocument(doc));
        due("the tests", testsOfReadme(readme), tests(root.resolve("src/test/java")));
        int answers = runExample(readme);
        System.out.println(wrong == 0 ? "README.md is true: " + calls.size() + " calls, an example of " + answers + " answers"
            : wrong + " things in README.md are not as due");
        if (wrong != 0) System.exit(1);
    }

    /** Each call, with the names of its parameters, and its findings in the order in which they are asked. */
    private static Map<String, List<String>> callsOfReadme(String readme) {
        Map<String, List<String>> calls = new LinkedHashMap<>();
        Matcher m = Pattern.compile("(?m)^\\| `(\\w+\\([^)]*\\))` \\| [^|]+ \\| ([A-Za-z, ]+) \\|$").matcher(readme);
        while (m.find()) {
            List<String> findings = m.group(2).equals("none") ? List.of() : List.of(m.group(2).split(", "));
            due("told before of " + m.group(1), calls.put(m.group(1), findings) != null, false);
        }
        return calls;
    }

    private static Map<String, List<String>> callsOfDocument(String doc) {
        Map<String, List<String>> calls = new LinkedHashMap<>();
        Matcher m = Pattern.compile("(?m)^`(?:int|long) (\\w+)\\(([^)]*)\\)`: (.*)$").matcher(doc);
        while (m.find()) calls.put(m.group(1) + "(" + m.group(2).replace("int ", "") + ")", findings(m.group(3)));
        return calls;
    }

    /** A finding begins a sentence of its own: "it is MISSING" within another one is none. */
    private static List<String> findings(String promise) {
        List<String> findings = new ArrayList<>();
        Matcher m = Pattern.compile("(?<=\\. )(" + FINDING + ")(?=[.:]| \\(counted)").matcher(promise);
        while (m.find()) findings.add(m.group(1));
        return findings;
    }

    private static Map<String, Integer> findingsOfReadme(String readme) {
        Map<String, Integer> findings = new LinkedHashMap<>();
        Matcher m = Pattern.compile("(?m)^\\| (" + FINDING + ") \\| (-\\d+) \\|$").matcher(readme);
        while (m.find()) findings.put(m.group(1), Integer.parseInt(m.group(2)));
        return findings;
    }

    private static Map<String, Integer> findingsOfDocument(String doc) {
        Map<String, Integer> findings = new LinkedHashMap<>();
        Matcher low = Pattern.compile("LOW is (-\\d+)").matcher(doc);
        due("LOW in the document", low.find(), true);
        Matcher m = Pattern.compile("LOW(?: - (\\d))? (" + FINDING + ")\\b").matcher(doc);
        while (m.find()) {
            int less = m.group(1) == null ? 0 : Integer.parseInt(m.group(1));
            findings.put(m.group(2), Integer.parseInt(low.group(1)) - less);
        }
        return findings;
    }

    private static Set<String> testsOfReadme(String readme) {
        Set<String> tests = new TreeSet<>();
        Matcher m = Pattern.compile("(?m)^- `(\\w+Test)`: ").matcher(readme);
        while (m.find()) tests.add(m.group(1));
        return tests;
    }

    private static Set<String> tests(Path folder) throws IOException {
        Set<String> tests = new TreeSet<>();
        try (Stream<Path> files = Files.list(folder)) {
            files.map(f -> f.getFileName().toString()).filter(f -> f.endsWith("Test.java"))
                .forEach(f -> tests.add(f.substring(0, f.length() - ".java".length())));
        }
        return tests;
    }

    /** The example as a program of its own: each line that tells an answer ("// 17: ..") is asked for it. */
    private static int runExample(String readme) throws Exception {
        Matcher block = Pattern.compile("(?s)```java\n(.*?)```").matcher(readme);
        due("an example", block.find(), true);
        StringBuilder body = new StringBuilder();
        int answers = 0;
        for (String line : block.group(1).split("\n")) {
            Matcher m = Pattern.compile("(int \\w+ = )?(cloak\\.\\w+\\([^;]*\\)); +// (-?\\d+): .*").matcher(line);
            if (!m.matches()) {
                body.append(line).append('\n');
                continue;
            }
            answers++;
            String kept = m.group(1) == null ? "long answer" + answers + " = " : m.group(1);
            String name = kept.split(" ")[1];
            body.append(kept).append(m.group(2)).append(";\n");
            body.append("if (").append(name).append(" != ").append(m.group(3)).append(") { wrong++; System.out.println(\"README.md: ")
                .append(m.group(2)).append(" answered \" + ").append(name).append("); }\n");
        }
        due("how many answers the example tells", answers >= 10, true);
        due("the example's wrong answers", runMain(body.toString()), 0);
        return answers;
    }

    private static int runMain(String body) throws Exception {
        Path folder = Files.createTempDirectory("readme");
        Path file = folder.resolve("Example.java");
        Path made = folder.resolve("Example.class");
        try {
            Files.writeString(file, "public final class Example {\n  public static int run() {\n    int wrong = 0;\n" + body
                + "    return wrong;\n  }\n}\n");
            int compiled = ToolProvider.getSystemJavaCompiler().run(null, null, null, "-cp",
                System.getProperty("java.class.path"), "-d", folder.toString(), file.toString());
            due("the example's compiling", compiled, 0);
            if (compiled != 0) return 0;
            try (URLClassLoader loader = new URLClassLoader(new URL[] {folder.toUri().toURL()})) {
                return (int) loader.loadClass("Example").getMethod("run").invoke(null);
            }
        } finally {
            Files.deleteIfExists(made);
            Files.deleteIfExists(file);
            Files.deleteIfExists(folder);
        }
    }
}
