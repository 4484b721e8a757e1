import java.io.IOException;
import java.io.InputStream;
import java.lang.reflect.Method;
import java.lang.reflect.Modifier;
import java.nio.charset.StandardCharsets;
import java.nio.file.Files;
import java.nio.file.Path;
import java.util.ArrayList;
import java.util.Comparator;
import java.util.List;
import java.util.Set;
import java.util.TreeSet;
import java.util.regex.Matcher;
import java.util.regex.Pattern;
import java.util.stream.Collectors;
import java.util.stream.Stream;

/**
 * README.md as it stands there: its commands are run, its program prints what is told, each call answers what stands
 * behind it, every method is used, and the tests are those that there are. Runs in the project's folder.
 */
public final class ReadmeTest {
    private static final Path PAGE = Path.of("README.md");
    private static final Path SOURCE = Path.of("src/main/java/SimplexDesk.java");
    private static final Path TESTS = Path.of("src/test/java");
    // A folder like that of the project when it has just been fetched: with the source, and nothing compiled.
    private static final Path PLACE = Path.of("build/readme");
    private static final Pattern PROGRAM = Pattern.compile("public final class (\\w+)");
    private static final String ANSWER = ";\\s+// (throws \\w+|[\\w.-]+)(?:[:;] .*)?";
    private static final Pattern CALL = Pattern.compile("(desk\\.\\w+\\(.*\\))" + ANSWER);
    private static final Pattern DECLARATION = Pattern.compile("(\\w+ (\\w+) = .*)" + ANSWER);
    private static final Pattern USE = Pattern.compile("desk\\.(\\w+)\\(");
    private static final String BEFORE = "public final class ReadmeSteps {\n"
            + "    interface Call { Object go(); }\n"
            + "    static int wrong = 0;\n"
            + "    static void due(int line, String due, Call call) {\n"
            + "        String got;\n"
            + "        try { got = String.valueOf(call.go()); }\n"
            + "        catch (RuntimeException e) { got = \"throws \" + e.getClass().getSimpleName(); }\n"
            + "        if (!got.equals(due)) {\n"
            + "            wrong++;\n"
            + "            System.out.println(\"line \" + line + \" answers \" + got + \", there stands \" + due);\n"
            + "        }\n"
            + "    }\n"
            + "    public static void main(String[] args) {\n        {\n";
    private static final String BEHIND = "        }\n        System.exit(wrong == 0 ? 0 : 1);\n    }\n}\n";

    private final StringBuilder steps = new StringBuilder(BEFORE);
    private final Set<String> used = new TreeSet<>();
    private String printed = "";

    private ReadmeTest() {
    }

    public static void main(String[] args) throws IOException, InterruptedException {
        List<String> lines = Files.readAllLines(PAGE);
        int tests = lines.indexOf("## How to run its tests");
        new ReadmeTest().useOfTheClass(lines.subList(0, tests));
        runOfTheTests(lines.subList(tests, lines.size()));
        Check.end("ReadmeTest");
    }

    private void useOfTheClass(List<String> lines) throws IOException, InterruptedException {
        Check.begin("README.md, how to use the class");
        prepare();
        for (int start = 0; start < lines.size(); start++) {
            if (lines.get(start).startsWith("```")) {
                int end = start + 1 + lines.subList(start + 1, lines.size()).indexOf("```");
                block(lines.get(start).substring(3), start + 1, lines.subList(start + 1, end));
                start = end;
            }
        }
        makeSteps();
        Check.text("the methods that are used", used.toString(), faceOfTheClass().toString());
    }

    private static void prepare() throws IOException {
        if (Files.exists(PLACE)) {
            try (Stream<Path> old = Files.walk(PLACE)) {
                for (Path path : old.sorted(Comparator.reverseOrder()).collect(Collectors.toList())) {
                    Files.delete(path);
                }
            }
        }
        Path copy = PLACE.resolve(SOURCE);
        Files.createDirectories(copy.getParent());
        Files.copy(SOURCE, copy);
    }

    private void block(String kind, int first, List<String> block) throws IOException, InterruptedException {
        String whole = String.join("\n", block) + "\n";
        Matcher program = PROGRAM.matcher(whole);
        if (kind.equals("sh")) {
            for (String command : block) {
                printed = run(command);
            }
        } else if (kind.equals("text")) {
            Check.text("what is printed", printed, whole);
        } else if (program.find()) {
            Files.writeString(PLACE.resolve(program.group(1) + ".java"), whole);
        } else {
            for (int index = 0; index < block.size(); index++) {
                addStep(first + index + 1, block.get(index));
            }
        }
    }

    private static String run(String command) throws IOException, InterruptedException {
        Process process = new ProcessBuilder("sh", "-c", command).directory(PLACE.toFile()).redirectErrorStream(true).start();
        process.getOutputStream().close();
        String printed;
        try (InputStream in = process.getInputStream()) {
            printed = new String(in.readAllBytes(), StandardCharsets.UTF_8);
        }
        if (process.waitFor() != 0) {
            Check.fault(command + " fails: " + printed);
        }
        return printed;
    }

    private void addStep(int number, String line) {
        Matcher call = CALL.matcher(line);
        Matcher declaration = DECLARATION.matcher(line);
        Matcher name = USE.matcher(line);
        while (name.find()) {
            used.add(name.group(1));
        }
        if (line.contains("new SimplexDesk()")) {
            steps.append("        }\n        {\n").append(line).append('\n');
        } else if (call.matches()) {
            addDue(number, call.group(2), call.group(1));
        } else if (declaration.matches()) {
            steps.append(declaration.group(1)).append(";\n");
            addDue(number, declaration.group(3), declaration.group(2));
        } else if (line.contains("//")) {
            Check.fault("no answer can be read in the line " + number + ": " + line);
        } else {
            steps.append(line).append('\n');
        }
    }

    private void addDue(int number, String due, String call) {
        steps.append("due(").append(number).append(", \"").append(due).append("\", () -> ").append(call).append(");\n");
    }

    private void makeSteps() throws IOException, InterruptedException {
        Files.writeString(PLACE.resolve("ReadmeSteps.java"), steps.append(BEHIND).toString());
        run("javac -cp build/program -d build/steps ReadmeSteps.java && java -cp build/program:build/steps ReadmeSteps");
    }

    private static Set<String> faceOfTheClass() {
        Set<String> names = new TreeSet<>();
        for (Method method : SimplexDesk.class.getDeclaredMethods()) {
            if (Modifier.isPublic(method.getModifiers())) {
                names.add(method.getName());
            }
        }
        return names;
    }

    // The commands name what there is; .ci/run, which runs this test too, is not run from here.
    private static void runOfTheTests(List<String> lines) throws IOException {
        Check.begin("README.md, how to run its tests");
        Set<String> named = new TreeSet<>();
        for (String line : lines) {
            Matcher command = Pattern.compile("java -cp build/program:build/tests (\\w+)( \\d+)?").matcher(line);
            if (command.matches()) {
                Check.same(command.group(1) + " is there", Files.exists(TESTS.resolve(command.group(1) + ".java")), true);
            } else {
                Matcher name = Pattern.compile("`([A-Z]\\w+)`").matcher(line);
                while (name.find()) {
                    named.add(name.group(1) + ".java");
                }
            }
        }
        List<String> files = new ArrayList<>();
        try (Stream<Path> paths = Files.list(TESTS)) {
            paths.forEach(path -> files.add(path.getFileName().toString()));
        }
        Check.text("the tests that are named", named.toString(), new TreeSet<>(files).toString());
        Check.same("the command .ci/run", lines.contains(".ci/run") && Files.isExecutable(Path.of(".ci/run")), true);
    }
}
