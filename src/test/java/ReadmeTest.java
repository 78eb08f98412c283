import java.lang.reflect.InvocationTargetException;
import java.net.URL;
import java.net.URLClassLoader;
import java.nio.charset.StandardCharsets;
import java.nio.file.Files;
import java.nio.file.Path;
import java.util.ArrayList;
import java.util.List;
import java.util.Set;
import java.util.TreeSet;
import java.util.regex.Matcher;
import java.util.regex.Pattern;
import java.util.stream.Collectors;
import java.util.stream.Stream;
import javax.tools.JavaCompiler;
import javax.tools.ToolProvider;

/** The calls that README.md shows answer as it says, each call is shown, and it names the tests and their command. */
public final class ReadmeTest {
    /** A call with its answer: a number, true, false, or 'throws' and an exception. */
    private static final Pattern ANSWERED =
            Pattern.compile("((?:land\\.)?\\w+\\(.*\\)); +// (-?\\d+|true|false|throws \\w+)(?::.*)?");
    private static final Pattern SILENT = Pattern.compile("land\\.(?:soil|gate)\\(.*\\);");
    private static final String NEW_LAND = "LandUses land = new LandUses();";

    private static int answered = 0;

    public static void main(String[] args) throws Exception {
        String readme = Files.readString(Path.of("README.md"), StandardCharsets.UTF_8);
        showsEachCall(readme);
        callsAnswerAsShown(readme);
        linesAreRight(readme);
        namesTheCommand(readme);
        namesEachTest(readme);
        Checks.finish();
    }

    /** The insides of all fenced blocks of a language. */
    private static List<String> blocks(String readme, String language) {
        List<String> found = new ArrayList<>();
        Matcher matcher = Pattern.compile("(?ms)^```" + language + "\\n(.*?)^```$").matcher(readme);
        while (matcher.find()) {
            found.add(matcher.group(1));
        }
        return found;
    }

    private static void showsEachCall(String readme) {
        String shown = String.join("", blocks(readme, "java"));
        for (java.lang.reflect.Method method : LandUses.class.getMethods()) {
            if (method.getDeclaringClass() == LandUses.class) {
                Checks.due("README.md shows " + method.getName(), shown.contains("land." + method.getName() + "("), true);
            }
        }
    }

    private static void callsAnswerAsShown(String readme) throws Exception {
        StringBuilder members = new StringBuilder();
        StringBuilder calls = new StringBuilder();
        for (String block : blocks(readme, "java")) {
            if (block.contains("static ")) {
                members.append(block);
            } else {
                block.lines().forEach(line -> calls.append(statement(line)).append('\n'));
            }
        }
        Checks.due("README.md shows answers", answered > 0, true);
        runProgram("public final class ReadmeRun {\n" + members
                + "public static java.util.List<String[]> run() {\n"
                + "java.util.List<String[]> answers = new java.util.ArrayList<>();\n" + calls
                + "return answers;\n}\n}\n");
    }

    /** What a line of the README is in the program that is made of it. */
    private static String statement(String line) {
        Matcher call = ANSWERED.matcher(line);
        if (call.matches()) {
            answered++;
            String row = "answers.add(new String[] {" + quoted(call.group(1)) + ", " + quoted(call.group(2)) + ", ";
            return "try { " + row + "String.valueOf(" + call.group(1) + ")}); } catch (RuntimeException e) { "
                    + row + "\"throws \" + e.getClass().getSimpleName()}); }";
        }
        boolean plain = line.equals(NEW_LAND) || SILENT.matcher(line).matches();
        Checks.due("README.md: '" + line + "' is a call with its answer, or has none", plain, true);
        return plain ? line : "";
    }

    private static String quoted(String text) {
        return '"' + text.replace("\\", "\\\\").replace("\"", "\\\"") + '"';
    }

    private static void runProgram(String source) throws Exception {
        Path directory = Files.createTempDirectory("readme");
        Path file = directory.resolve("ReadmeRun.java");
        try {
            Files.writeString(file, source);
            JavaCompiler compiler = ToolProvider.getSystemJavaCompiler();
            int code = compiler == null ? -1 : compiler.run(null, null, null, "-cp", System.getProperty("java.class.path"),
                    "-d", directory.toString(), file.toString());
            Checks.due("compiling what README.md shows", code, 0);
            if (code == 0) {
                compareAnswers(directory);
            }
        } finally {
            Files.deleteIfExists(file);
            Files.deleteIfExists(directory.resolve("ReadmeRun.class"));
            Files.deleteIfExists(directory);
        }
    }

    private static void compareAnswers(Path directory) throws Exception {
        try (URLClassLoader loader = new URLClassLoader(new URL[] {directory.toUri().toURL()})) {
            List<?> answers = (List<?>) loader.loadClass("ReadmeRun").getMethod("run").invoke(null);
            Checks.due("answered calls of README.md", answers.size(), answered);
            for (Object answer : answers) {
                String[] row = (String[]) answer;
                Checks.due("README.md: " + row[0], row[2], row[1]);
            }
        } catch (InvocationTargetException e) {
            Checks.due("the calls of README.md", "throws." + e.getCause().getClass().getSimpleName(), "nothing thrown");
        }
    }

    /** Each kind of line that the table shows is a book by itself. */
    private static void linesAreRight(String readme) {
        Matcher matcher = Pattern.compile("(?m)^\\| `([^`]*)` \\|").matcher(readme);
        int lines = 0;
        while (matcher.find()) {
            String line = matcher.group(1);
            Checks.due("README.md: '" + line + "'", Checks.answer(() -> Checks.bookOf(new LandUses(), line)), 1);
            lines++;
        }
        Checks.due("README.md shows each kind of line", lines, 8);
    }

    private static void namesTheCommand(String readme) {
        Checks.due("README.md's commands", blocks(readme, "sh"), List.of(".ci/run\n"));
        Checks.due(".ci/run can be run", Files.isExecutable(Path.of(".ci/run")), true);
    }

    private static void namesEachTest(String readme) throws Exception {
        Set<String> named = new TreeSet<>();
        Matcher matcher = Pattern.compile("`src/test/java/(\\w+\\.java)`").matcher(readme);
        while (matcher.find()) {
            named.add(matcher.group(1));
        }
        try (Stream<Path> files = Files.list(Path.of("src/test/java"))) {
            Set<String> there = files.map(path -> path.getFileName().toString())
                    .filter(name -> name.endsWith(".java")).collect(Collectors.toCollection(TreeSet::new));
            Checks.due("tests that README.md names", named, there);
        }
    }
}
