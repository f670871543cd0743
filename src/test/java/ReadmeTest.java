import java.io.IOException;
import java.lang.reflect.Method;
import java.lang.reflect.Modifier;
import java.net.URL;
import java.net.URLClassLoader;
import java.nio.file.Files;
import java.nio.file.Path;
import java.util.List;
import java.util.Map;
import java.util.TreeMap;
import java.util.TreeSet;
import java.util.regex.Matcher;
import java.util.regex.Pattern;
import java.util.stream.Collectors;
import java.util.stream.Stream;
import javax.tools.JavaCompiler;
import javax.tools.ToolProvider;

/**
 * What README.md says holds: its examples compile and answer as they say, each call of the face stands there as the
 * document tells it, with its refusals, and so do the acts, the constants and the tests.
 */
public final class ReadmeTest {
    private static final Check CHECK = new Check();
    private static final Path DOCUMENT = Path.of("../shared/DOC.md");
    private static final Pattern CHECKED = Pattern.compile("(x\\.(\\w+)\\(.*\\));\\s+// (-?\\d+)(:.*)?");
    private static final Pattern CALL_ROW =
        Pattern.compile("\\| `((?:int|long) \\w+\\([^)]*\\))` \\| (.+) \\| (.*)\\|");
    private static final Pattern PROMISE = Pattern.compile("`((?:int|long) \\w+\\([^)]*\\))`: (.*)");
    private static final Pattern REFUSAL = Pattern.compile("\\b(UNKNOWN|OUTSIDE|NO|STATE|FULL)\\b");
    private static final Pattern CONSTANT = Pattern.compile("`?([A-Z]+)`? (?:\\| |\\()(-\\d+)(?: \\||\\))");
    private static final Pattern ACT_ROW = Pattern.compile("\\| `([A-Zhdk][^`]*)` \\| .+ \\| ([1-7, ]+) \\|");
    private static final Pattern TEST_ROW = Pattern.compile("\\| `(\\w+Test)` \\| .+ \\|");

    public static void main(String[] args) throws Exception {
        List<String> readme = Files.readAllLines(Path.of("README.md"));
        examples(readme);
        calls(readme);
        constants(readme);
        acts(readme);
        tests(readme);
        CHECK.finish();
    }

    // ---- examples

    private static void examples(List<String> readme) throws Exception {
        TreeSet<String> called = new TreeSet<>();
        String source = exampleSource(readme, called);
        CHECK.holds("each call is in an example: " + called, called.equals(namesOfFace()));
        for (Object wrong : answersOf(source)) {
            CHECK.holds("README.md: " + wrong, false);
        }
    }

    /** Each block is a scope of its own; a call at the margin must tell its answer. */
    private static String exampleSource(List<String> readme, TreeSet<String> called) {
        StringBuilder source = new StringBuilder("public final class ReadmeExamples {\n"
            + "static void due(java.util.List<String> wrong, String call, long got, long want) {\n"
            + "if (got != want) wrong.add(call + \" answered \" + got + \", not \" + want);\n}\n"
            + "public static java.util.List<String> wrong() {\n"
            + "java.util.List<String> wrong = new java.util.ArrayList<>();\n");
        boolean isJava = false;
        for (String line : readme) {
            Matcher checked = CHECKED.matcher(line);
            if (line.startsWith("```")) {
                source.append(isJava ? "}\n" : line.equals("```java") ? "{\n" : "");
                isJava = line.equals("```java");
            } else if (isJava && checked.matches()) {
                called.add(checked.group(2));
                source.append("due(wrong, \"").append(checked.group(1)).append("\", ").append(checked.group(1))
                    .append(", ").append(checked.group(3)).append("L);\n");
            } else if (isJava) {
                CHECK.holds("README.md tells the answer: " + line, !line.startsWith("x."));
                source.append(line).append('\n');
            }
        }
        return source.append("return wrong;\n}\n}\n").toString();
    }

    private static List<?> answersOf(String source) throws Exception {
        Path directory = Files.createTempDirectory("readme");
        try {
            Path file = directory.resolve("ReadmeExamples.java");
            Files.writeString(file, source);
            JavaCompiler compiler = ToolProvider.getSystemJavaCompiler();
            int code = compiler.run(null, null, null, "-cp", System.getProperty("java.class.path"), "-d",
                directory.toString(), file.toString());
            CHECK.holds("the examples of README.md compile", code == 0);
            return code == 0 ? answersIn(directory) : List.of();
        } finally {
            for (String name : List.of("ReadmeExamples.java", "ReadmeExamples.class")) {
                Files.deleteIfExists(directory.resolve(name));
            }
            Files.delete(directory);
        }
    }

    private static List<?> answersIn(Path directory) throws Exception {
        URL[] urls = {directory.toUri().toURL()};
        try (URLClassLoader loader = new URLClassLoader(urls, OxenKneel.class.getClassLoader())) {
            return (List<?>) loader.loadClass("ReadmeExamples").getMethod("wrong").invoke(null);
        }
    }

    private static TreeSet<String> namesOfFace() {
        TreeSet<String> names = new TreeSet<>();
        for (Method method : OxenKneel.class.getDeclaredMethods()) {
            if (Modifier.isPublic(method.getModifiers())) {
                names.add(method.getName());
            }
        }
        return names;
    }

    // ---- tables

    private static void calls(List<String> readme) throws IOException {
        Map<String, TreeSet<String>> told = new TreeMap<>();
        for (String line : readme) {
            Matcher row = CALL_ROW.matcher(line);
            if (row.matches()) {
                CHECK.holds("one row of " + row.group(1), told.put(row.group(1), refusalsIn(row.group(3))) == null);
            }
        }
        CHECK.due("rows of calls in README.md", told.size(), namesOfFace().size());
        if (!Files.exists(DOCUMENT)) {
            System.out.println("there is no " + DOCUMENT + ": calls are not set against it");
            return;
        }
        Map<String, TreeSet<String>> due = new TreeMap<>();
        for (String line : Files.readAllLines(DOCUMENT)) {
            Matcher promise = PROMISE.matcher(line);
            if (promise.matches()) {
                due.put(promise.group(1), refusalsIn(promise.group(2)));
            }
        }
        CHECK.due("calls in the document", due.size(), namesOfFace().size());
        for (Map.Entry<String, TreeSet<String>> call : due.entrySet()) {
            CHECK.holds("README.md has " + call.getKey() + ", refused with " + call.getValue() + ", but "
                + told.get(call.getKey()), call.getValue().equals(told.get(call.getKey())));
        }
    }

    private static TreeSet<String> refusalsIn(String text) {
        return REFUSAL.matcher(text).results().map(found -> found.group(1))
            .collect(Collectors.toCollection(TreeSet::new));
    }

    private static void constants(List<String> readme) {
        Map<String, Long> told = new TreeMap<>();
        for (String line : readme) {
            Matcher constant = CONSTANT.matcher(line);
            while (constant.find()) {
                told.put(constant.group(1), Long.valueOf(constant.group(2)));
            }
        }
        Map<String, Long> due = new TreeMap<>(Map.of("UNKNOWN", (long) OxenKneel.UNKNOWN, "OUTSIDE",
            (long) OxenKneel.OUTSIDE, "NO", (long) OxenKneel.NO, "STATE", (long) OxenKneel.STATE, "FULL",
            (long) OxenKneel.FULL, "NONE", (long) OxenKneel.NONE, "LOST", OxenKneel.LOST));
        CHECK.holds("README.md tells the constants " + due + ", but " + told, told.equals(due));
    }

    /** Each act of the table is made in many ways: the reasons by which it can not be are those of its row. */
    private static void acts(List<String> readme) {
        TreeSet<String> first = new TreeSet<>();
        for (String line : readme) {
            Matcher row = ACT_ROW.matcher(line);
            if (row.matches()) {
                String act = row.group(1);
                first.add(act.substring(0, Math.min(2, act.length())).replaceAll("[1-9]", ""));
                TreeSet<String> told = new TreeSet<>(List.of(row.group(2).split(", ")));
                TreeSet<String> seen = reasonsSeen(act);
                CHECK.holds(act + " can not be for " + seen + ", README.md tells " + told, seen.equals(told));
            }
        }
        CHECK.holds("README.md has a row for each act: " + first,
            first.equals(new TreeSet<>(List.of("A(", "A)", "A>", "A<", "A$", "A%", "h", "d", "k"))));
    }

    private static TreeSet<String> reasonsSeen(String act) {
        TreeSet<String> reasons = new TreeSet<>();
        for (int i = 0; i < 64; i++) {
            OxenKneel x = new OxenKneel();
            x.shift((i & 1) == 0 ? 0 : 1);
            x.person(0, (i & 2) == 0 ? 1 : 10);
            x.clock(358, 0, 0);
            Check.write(x, (i & 4) == 0 ? "" : "A(");
            x.done();
            Check.write(x, (i & 8) == 0 ? "" : "A$1");
            x.done();
            x.clock((i & 16) == 0 ? 358 : 364, (i & 16) == 0 ? 0 : 23, (i & 32) == 0 ? 7 : 99);
            Check.write(x, act);
            CHECK.due("fault() of " + act, x.fault(), OxenKneel.NONE);
            if (x.judge(1) != OxenKneel.NONE) {
                reasons.add(String.valueOf(x.judge(1)));
            }
        }
        return reasons;
    }

    private static void tests(List<String> readme) throws IOException {
        TreeSet<String> told = new TreeSet<>();
        for (String line : readme) {
            Matcher row = TEST_ROW.matcher(line);
            if (row.matches()) {
                told.add(row.group(1));
            }
        }
        try (Stream<Path> files = Files.list(Path.of("src/test/java"))) {
            TreeSet<String> due = files.map(file -> file.getFileName().toString())
                .filter(name -> name.endsWith("Test.java")).map(name -> name.replace(".java", ""))
                .collect(Collectors.toCollection(TreeSet::new));
            CHECK.holds("README.md has the tests " + due + ", but " + told, told.equals(due));
        }
    }
}
