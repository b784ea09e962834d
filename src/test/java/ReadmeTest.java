import java.io.File;
import java.io.IOException;
import java.lang.reflect.InvocationTargetException;
import java.net.URL;
import java.net.URLClassLoader;
import java.nio.file.Files;
import java.nio.file.Path;
import java.util.ArrayList;
import java.util.Comparator;
import java.util.LinkedHashMap;
import java.util.List;
import java.util.Map;
import java.util.regex.Matcher;
import java.util.regex.Pattern;
import java.util.stream.Collectors;
import java.util.stream.Stream;
import javax.tools.ToolProvider;

/** What README.md says is so: its examples answer as told, its tables are those of the document, its files are there. */
public final class ReadmeTest {
    private static final List<String> FINDINGS = List.of("BEYOND", "FULL", "KIND", "NONE", "STATE", "MISSING", "SIZE");
    private static final Pattern BLOCK = Pattern.compile("(?ms)^```(\\w+)\n(.*?)^```$");
    private static final Pattern ASKED = Pattern.compile("((?:x\\.|read\\().*\\)); +// (-?\\d+)(?:[,:].*)?");
    private static final Pattern ROW = Pattern.compile("(?m)^\\| `(\\w+\\(.*?\\))` \\| (.+) \\|(.*)\\|$");
    private static final Pattern PROMISE = Pattern.compile("(?s)## Promise \\d+: \\w+\n\n`int (\\w+\\(.*?\\))`: (.*?)\n");
    private static int wrong;

    public static void main(String[] args) throws Exception {
        String readme = Files.readString(Path.of("README.md"));
        String document = Files.readString(Path.of("../shared/DOC.md"));
        examples(readme);
        calls(readme, document);
        findings(readme);
        kinds(readme, document);
        files(readme);
        System.out.println(wrong == 0 ? "the README is right" : wrong + " things in the README are not so");
        if (wrong != 0) {
            System.exit(1);
        }
    }

    private static void check(boolean holds, String what) {
        if (!holds) {
            wrong++;
            System.out.println("README: " + what);
        }
    }

    /** The examples, word for word, as a program: what stands behind // must be what the call answers. */
    private static void examples(String readme) throws IOException, ReflectiveOperationException {
        StringBuilder helpers = new StringBuilder();
        StringBuilder runs = new StringBuilder();
        int asked = 0;
        Matcher block = BLOCK.matcher(readme);
        while (block.find()) {
            if (!block.group(1).equals("java")) {
                continue;
            }
            String code = block.group(2);
            if (code.startsWith("static ")) {
                helpers.append(code);
                continue;
            }
            runs.append("{\n");
            for (String line : code.split("\n")) {
                Matcher call = ASKED.matcher(line);
                boolean isAsked = call.matches();
                check(isAsked || line.equals("NameBook x = new NameBook();"), "no answer is told: " + line);
                asked += isAsked ? 1 : 0;
                runs.append(isAsked ? due(call.group(1), call.group(2)) : line).append('\n');
            }
            runs.append("}\n");
        }
        check(asked >= 50, "only " + asked + " calls in its examples");
        String answers = answers("public class Examples {\n" + helpers
                + "static StringBuilder out = new StringBuilder();\n"
                + "static void due(String call, int got, int want) {\n"
                + "if (got != want) { out.append(call).append(\" answers \").append(got).append('\\n'); }\n}\n"
                + "public static String run() {\n" + runs + "return out.toString();\n}\n}\n");
        check(answers.isEmpty(), "examples: " + answers);
    }

    private static String due(String call, String want) {
        return "due(\"" + call.replace("\"", "'") + "\", " + call + ", " + want + ");";
    }

    private static String answers(String program) throws IOException, ReflectiveOperationException {
        Path dir = Files.createTempDirectory("readme");
        try {
            Path file = dir.resolve("Examples.java");
            Files.writeString(file, program);
            int code = ToolProvider.getSystemJavaCompiler().run(null, null, null, "-d", dir.toString(),
                    "src/main/java/NameBook.java", file.toString());
            if (code != 0) {
                return "they do not compile";
            }
            // not the loader of this test: the examples are to be run with the class that they were compiled with
            try (URLClassLoader loader = new URLClassLoader(new URL[] {dir.toUri().toURL()},
                    ClassLoader.getPlatformClassLoader())) {
                return (String) loader.loadClass("Examples").getMethod("run").invoke(null);
            } catch (InvocationTargetException e) {
                return "they throw " + e.getCause();
            }
        } finally {
            remove(dir);
        }
    }

    private static void remove(Path dir) throws IOException {
        try (Stream<Path> all = Files.walk(dir)) {
            all.sorted(Comparator.reverseOrder()).map(Path::toFile).forEach(File::delete);
        }
    }

    /** One row for each call, in the document's order, with its parameters and its findings as they are asked. */
    private static void calls(String readme, String document) {
        Map<String, String> due = new LinkedHashMap<>();
        Matcher promise = PROMISE.matcher(document);
        while (promise.find()) {
            due.put(promise.group(1).replace("int ", ""), findingsOf(promise.group(2)));
        }
        check(due.size() == 43, "the document has " + due.size() + " calls");
        Map<String, String> told = new LinkedHashMap<>();
        Matcher row = ROW.matcher(readme);
        while (row.find()) {
            told.put(row.group(1), row.group(3).trim());
        }
        check(new ArrayList<>(told.keySet()).equals(new ArrayList<>(due.keySet())), "calls: " + told.keySet());
        for (String call : due.keySet()) {
            check(due.get(call).equals(told.get(call)), call + " tells " + told.get(call) + ", not " + due.get(call));
        }
    }

    /** Each finding that a promise names begins a sentence of it. */
    private static String findingsOf(String promise) {
        return Stream.of(promise.split("\\. ")).map(sentence -> sentence.split("\\W")[0])
                .filter(FINDINGS::contains).collect(Collectors.joining(", "));
    }

    private static void findings(String readme) {
        List<String> told = new ArrayList<>();
        Matcher row = Pattern.compile("(?m)^\\| (-\\d+) \\| (\\w+) \\| .+ \\|$").matcher(readme);
        while (row.find()) {
            told.add(row.group(1) + row.group(2));
        }
        List<String> due = new ArrayList<>();
        for (int i = 0; i < FINDINGS.size(); i++) {
            due.add((-1000001 - i) + FINDINGS.get(i));
        }
        check(told.equals(due), "findings: " + told);
    }

    /** The tree of kinds is told as the class has it, and each word by the document. */
    private static void kinds(String readme, String document) {
        List<String> words = new ArrayList<>();
        List<String> above = new ArrayList<>();
        Matcher row = Pattern.compile("(?m)^\\| (\\d) \\| (\\w+) \\| ?(\\w*) ?\\| .+ \\| .+ \\|$").matcher(readme);
        while (row.find()) {
            check(row.group(1).equals(String.valueOf(words.size())), "kinds are not in their order");
            words.add(row.group(2));
            above.add(row.group(3));
            check(document.contains(row.group(1) + " " + row.group(2)), "kind " + row.group(2));
        }
        check(words.size() == 7, "kinds: " + words);
        for (int kind = 0; kind < words.size(); kind++) {
            NameBook x = new NameBook();
            x.task(kind, 0, 1);
            x.hold(0, 0);
            for (int other = 0; other < words.size(); other++) {
                boolean isUnder = isUnder(words, above, kind, other);
                check(x.as(0, other) == (isUnder ? 0 : -1000003), words.get(kind) + " under " + words.get(other));
            }
        }
    }

    private static boolean isUnder(List<String> words, List<String> above, int kind, int top) {
        int at = kind;
        while (at >= 0 && at != top) {
            at = words.indexOf(above.get(at));
        }
        return at == top;
    }

    /** All that it names by a path is there, and each test of the project is named. */
    private static void files(String readme) throws IOException {
        Matcher path = Pattern.compile("(?:\\.\\./shared/|src/|\\.ci/)[\\w./]+\\w").matcher(readme);
        while (path.find()) {
            check(Files.exists(Path.of(path.group())), "there is no " + path.group());
        }
        try (Stream<Path> tests = Files.list(Path.of("src/test/java"))) {
            tests.map(file -> file.getFileName().toString().replace(".java", ""))
                    .forEach(name -> check(readme.contains("`" + name + "`"), name + " is not named"));
        }
    }
}
